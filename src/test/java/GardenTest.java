/** Promises 1 to 5: a new object, place, walk, way, rain. */
public final class GardenTest {
    private static final Check CHECK = new Check();

    private static void due(String call, long got, long want) {
        CHECK.due(call, got, want);
    }

    public static void main(String[] args) {
        newObject();
        places();
        walks();
        ways();
        rains();
        CHECK.finish();
    }

    private static void newObject() {
        PleasureGarden x = new PleasureGarden();
        for (int what = 0; what <= 15; what++) {
            due("1 count(" + what + ") when new", x.count(what), 0);
        }
        due("1 no tickets sold", x.sell(0, 299), 300);
        due("1 no place", x.heads(0), -1);
        due("1 no party", x.party(0, 0), -1);
        due("1 no lamp", x.burns(0), -1);
        due("1 no box", x.in(0), -1);
        due("1 no closed night", x.night(0, 0), PleasureGarden.VOID);
        due("1 slice at first", x.rule(0, 10), 10);
        due("1 waiters at first", x.rule(1, 1), 1);
        due("1 two objects share nothing", new PleasureGarden().sell(0, 299), 300);
    }

    private static void places() {
        PleasureGarden x = new PleasureGarden();
        due("2 room 0", x.place(0, 0), -1);
        due("2 room 1000", x.place(1000, 0), -1);
        due("2 covered -1", x.place(1, -1), -1);
        due("2 covered 2", x.place(1, 2), -1);
        due("2 BAD makes none", x.count(0), 0);
        due("2 room 1", x.place(1, 0), 0);
        due("2 room 999", x.place(999, 1), 1);
        for (int i = 2; i < 16; i++) {
            due("2 place " + i, x.place(5, i % 2), i);
        }
        due("2 the 17th", x.place(5, 0), -3);
        due("2 BAD ahead of FULL", x.place(0, 0), -1);
        due("2 how many", x.count(0), 16);
    }

    private static void walks() {
        PleasureGarden x = Check.garden(9, 0, 9, 0, 9, 0);
        due("3 new", x.walk(0, 1, 60), 0);
        due("3 again, the other way round", x.walk(1, 0, 1), 60);
        due("3 same place", x.walk(2, 2, 5), -1);
        due("3 no place a", x.walk(3, 0, 5), -1);
        due("3 no place b", x.walk(0, -1, 5), -1);
        due("3 61 minutes", x.walk(0, 1, 61), -1);
        due("3 -1 minutes", x.walk(0, 1, -1), -1);
        due("3 BAD changed nothing", x.way(0, 1), 1);
        due("3 taken away", x.walk(0, 1, 0), 1);
        due("3 is away", x.walk(0, 1, 0), 0);
        due("3 no way by it", x.way(1, 0), -4);
    }

    private static void ways() {
        PleasureGarden x = Check.garden(9, 0, 9, 0, 9, 0, 9, 0);
        x.walk(0, 1, 10);
        x.walk(1, 2, 20);
        x.walk(0, 2, 40);
        due("4 by two walks", x.way(0, 2), 30);
        due("4 either way", x.way(2, 0), 30);
        due("4 to itself", x.way(3, 3), 0);
        due("4 none", x.way(0, 3), -4);
        due("4 no place a", x.way(4, 0), -1);
        due("4 no place b", x.way(0, -1), -1);
        x.walk(0, 2, 29);
        due("4 the direct one is shorter now", x.way(0, 2), 29);
        x.walk(0, 2, 0);
        due("4 it is gone", x.way(0, 2), 30);
        due("4 a later place", x.place(1, 0), 4);
        due("4 has no way", x.way(0, 4), -4);

        PleasureGarden row = Check.garden();
        for (int i = 0; i < 16; i++) {
            row.place(1, 0);
        }
        for (int i = 15; i > 0; i--) {
            row.walk(i, i - 1, 60);
        }
        due("4 the longest", row.way(0, 15), 900);

        PleasureGarden star = Check.garden(9, 0, 9, 0, 9, 0);
        star.walk(1, 0, 2);
        star.walk(0, 2, 3);
        due("4 through the gate", star.way(1, 2), 5);
    }

    private static void rains() {
        PleasureGarden x = Check.garden(9, 0);
        due("5 first", x.rain(0, 1), 1);
        due("5 to the end", x.rain(479, 480), 2);
        due("5 the same again", x.rain(0, 1), 3);
        due("5 beyond", x.rain(479, 481), -1);
        due("5 empty", x.rain(5, 5), -1);
        due("5 backwards", x.rain(6, 5), -1);
        due("5 negative", x.rain(-1, 5), -1);
        x.minutes(10);
        due("5 past", x.rain(9, 20), -1);
        due("5 now", x.rain(10, 20), 4);
        for (int i = 5; i <= 20; i++) {
            due("5 span " + i, x.rain(10 + i, 11 + i), i);
        }
        due("5 the 21st", x.rain(100, 101), -3);
        due("5 BAD ahead of FULL", x.rain(9, 11), -1);
        x.close();
        due("5 a new night has none", x.rain(0, 3), 1);
    }
}
