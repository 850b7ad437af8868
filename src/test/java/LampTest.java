/** Promises 13 to 19: lamp, fuse, light, burns, dark, spent, best. */
public final class LampTest {
    private static final Check CHECK = new Check();

    private static void due(String call, long got, long want) {
        CHECK.due(call, got, want);
    }

    public static void main(String[] args) {
        lampsAndFuses();
        lights();
        lastsANight();
        oil();
        best();
        bestTies();
        longestRow();
        CHECK.finish();
    }

    private static PleasureGarden hung(int lamps) {
        PleasureGarden x = new PleasureGarden();
        for (int i = 0; i < lamps; i++) {
            x.lamp(100);
        }
        return x;
    }

    private static void lampsAndFuses() {
        PleasureGarden x = new PleasureGarden();
        due("13 oil 0", x.lamp(0), -1);
        due("13 oil 481", x.lamp(481), -1);
        due("13 oil 1", x.lamp(1), 0);
        due("13 oil 480", x.lamp(480), 1);
        for (int i = 2; i < 40; i++) {
            due("13 lamp " + i, x.lamp(9), i);
        }
        due("13 the 41st", x.lamp(9), -3);
        due("13 BAD ahead of FULL", x.lamp(0), -1);
        due("14 to itself", x.fuse(3, 3, 9), -1);
        due("14 no lamp a", x.fuse(-1, 3, 9), -1);
        due("14 no lamp b", x.fuse(3, 40, 9), -1);
        due("14 length 0", x.fuse(3, 4, 0), -1);
        due("14 length 1000", x.fuse(3, 4, 1000), -1);
        for (int i = 1; i <= 80; i++) {
            due("14 fuse " + i, x.fuse(i % 39, 39, i == 2 ? 999 : i), i);
        }
        due("14 the 81st", x.fuse(0, 1, 9), -3);
        due("14 BAD ahead of FULL", x.fuse(0, 0, 9), -1);
        due("14 how many", x.count(4), 80);
    }

    private static void lights() {
        PleasureGarden x = hung(6);
        x.fuse(0, 1, 10);
        x.fuse(1, 2, 11);
        x.fuse(2, 3, 15);
        x.fuse(3, 0, 99);
        x.fuse(3, 0, 40);
        due("15 no lamp a", x.light(6, 0), -1);
        due("15 a -1", x.light(-1, 0), -1);
        due("15 no lamp b", x.light(0, 6), -1);
        due("15 b -2", x.light(0, -2), -1);
        due("17 BAD lit none", x.dark(), 6);
        due("15 one", x.light(0, -1), 4);
        due("16 where it was lit", x.burns(0), 0);
        due("16 ten is one second", x.burns(1), 1);
        due("16 the whole row, rounded up once", x.burns(2), 3);
        due("16 the shortest row", x.burns(3), 4);
        due("16 never", x.burns(4), -2);
        due("16 no lamp", x.burns(6), -1);
        due("16 lamp -1", x.burns(-1), -1);
        due("17 two", x.dark(), 2);
        due("15 two", x.light(3, 1), 2);
        due("16 from the nearer one", x.burns(2), 2);
        due("16 the earlier light is no more", x.burns(0), 1);
        due("15 the same twice", x.light(4, 4), 0);
        due("17 but one", x.dark(), 5);
        x.fuse(4, 5, 5);
        due("16 a fuse behind the light", x.burns(5), -2);
        due("15 lit again", x.light(5, 4), 0);
        due("17 now", x.dark(), 4);
    }

    private static void lastsANight() {
        PleasureGarden x = hung(2);
        due("16 no light", x.burns(0), -2);
        due("17 no light: all", x.dark(), 2);
        due("18 no light", x.spent(), 0);
        x.light(0, 1);
        due("17 none", x.dark(), 0);
        x.lamp(4);
        due("17 a later lamp", x.dark(), 1);
        due("16 a later lamp", x.burns(2), -2);
        x.close();
        due("16 another night", x.burns(0), -2);
        due("17 another night", x.dark(), 3);
        due("18 another night", x.spent(), 0);
        due("19 lamps stay", x.count(3), 3);
    }

    private static void oil() {
        PleasureGarden x = new PleasureGarden();
        x.lamp(1);
        x.lamp(3);
        x.lamp(2);
        x.fuse(0, 1, 999);
        x.minutes(5);
        x.light(0, -1);
        due("18 none yet", x.spent(), 0);
        x.minutes(1);
        due("18 the first", x.spent(), 1);
        x.minutes(1);
        due("18 one never lit is not out", x.spent(), 1);
        x.minutes(1);
        due("18 the second", x.spent(), 2);
        x.light(0, 2);
        due("18 lit anew", x.spent(), 0);
    }

    private static void best() {
        PleasureGarden x = new PleasureGarden();
        due("19 no lamps", x.best(1), -2);
        due("19 lighters 0", x.best(0), -1);
        due("19 lighters 3", x.best(3), -1);
        x.lamp(1);
        due("19 one of one", x.best(1), 99);
        due("19 two of one", x.best(2), -2);
        x.lamp(1);
        due("19 two of two", x.best(2), 1);
        for (int i = 0; i < 3; i++) {
            x.lamp(1);
        }
        x.fuse(4, 3, 30);
        x.fuse(3, 2, 30);
        x.fuse(2, 1, 30);
        due("19 fewest dark, then the middle", x.best(1), 299);
        due("19 both parts", x.best(2), 2);
        x.fuse(0, 1, 500);
        due("19 none dark: the least last", x.best(1), 199);
        due("19 far ones by two", x.best(2), 2);
        due("19 lights nothing", x.dark(), 5);
    }

    private static void bestTies() {
        PleasureGarden x = hung(4);
        x.fuse(0, 1, 11);
        x.fuse(1, 2, 12);
        x.fuse(2, 3, 19);
        due("19 seconds, not lengths", x.best(2), 2);
        PleasureGarden y = hung(3);
        y.fuse(1, 2, 5);
        due("19 the first of equal ones", y.best(1), 199);
        due("19 of equal pairs", y.best(2), 1);
        PleasureGarden z = hung(40);
        due("19 all apart", z.best(2), 1);
        z.fuse(38, 39, 999);
        due("19 fewer dark, though later", z.best(1), 3899);
        due("19 two", z.best(2), 38);
    }

    private static void longestRow() {
        PleasureGarden x = hung(40);
        for (int i = 39; i > 0; i--) {
            x.fuse(i, i - 1, 999);
        }
        due("15 the whole row", x.light(0, -1), 3897);
        due("16 its middle", x.burns(20), 1998);
        due("19 one", x.best(1), 1999);
        due("19 two", x.best(2), 829);
        due("15 best of two", x.light(8, 29), 999);
    }
}
