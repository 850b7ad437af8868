/** Promises 20 to 26: box, let, rise, in, ham, rule, order (and the waiters). */
public final class BoxTest {
    private static final Check CHECK = new Check();

    private static void due(String call, long got, long want) {
        CHECK.due(call, got, want);
    }

    public static void main(String[] args) {
        boxes();
        letAndRise();
        freed();
        hamAndRules();
        orders();
        waiters();
        lacking();
        notTwiceInAMinute();
        lackingKeepsItsParty();
        ordersGoAway();
        CHECK.finish();
    }

    private static void boxes() {
        PleasureGarden x = Check.garden(9, 0, 9, 0);
        due("20 no place", x.box(2, 4), -1);
        due("20 place -1", x.box(-1, 4), -1);
        due("20 seats 0", x.box(0, 0), -1);
        due("20 seats 21", x.box(0, 21), -1);
        for (int i = 0; i < 20; i++) {
            due("20 box " + i, x.box(i % 2, i + 1), i);
        }
        due("20 the 21st", x.box(0, 1), -3);
        due("20 BAD ahead of FULL", x.box(0, 0), -1);
        due("20 how many", x.count(5), 20);
    }

    private static void letAndRise() {
        PleasureGarden x = Check.garden(9, 0, 9, 0);
        x.walk(0, 1, 1);
        x.box(0, 4);
        x.box(0, 5);
        x.box(1, 9);
        x.enter(0, 5);
        x.enter(1, 4);
        due("21 no box", x.let(3, 0), -1);
        due("21 box -1", x.let(-1, 0), -1);
        due("21 no party", x.let(0, 2), -1);
        due("21 party -1", x.let(0, -1), -1);
        due("21 too many heads", x.let(0, 0), -2);
        due("21 elsewhere", x.let(2, 0), -2);
        due("23 nobody", x.in(1), -2);
        due("21 seats all", x.let(1, 0), 1);
        due("23 who", x.in(1), 0);
        due("10 its box", x.party(0, 5), 1);
        due("21 it is let", x.let(1, 1), -2);
        due("21 as many heads as seats", x.let(0, 1), 1);
        due("21 in a box", x.let(2, 1), -2);
        due("23 no box", x.in(3), -1);
        due("23 box -1", x.in(-1), -1);
        due("22 no party", x.rise(2), -1);
        due("22 party -1", x.rise(-1), -1);
        due("22 which", x.rise(0), 1);
        due("22 in none", x.rise(0), -2);
        due("23 free", x.in(1), -2);
        due("22 still there", x.party(0, 3), 0);
        due("21 in another box", x.let(1, 1), -2);
        x.go(0, 1);
        due("21 walks", x.let(1, 0), -2);
        x.minutes(1);
        due("21 there now", x.let(2, 0), 1);
    }

    private static void freed() {
        PleasureGarden x = Check.garden(9, 0, 9, 0);
        x.walk(0, 1, 1);
        x.box(0, 9);
        x.enter(0, 1);
        x.let(0, 0);
        due("21 no way on, it sits", x.go(0, 0), -2);
        due("23 still", x.in(0), 0);
        x.go(0, 1);
        due("23 free when it goes", x.in(0), -2);
        due("22 in none", x.rise(0), -2);
        x.enter(1, 1);
        x.let(0, 1);
        x.leave(1);
        due("23 free when it is out", x.in(0), -2);
        due("10 no box", x.party(1, 5), -1);
        x.enter(2, 1);
        x.let(0, 2);
        x.close();
        due("23 free when the night is closed", x.in(0), -2);
        due("20 boxes stay", x.count(5), 1);
        x.enter(2, 1);
        due("10 a new party is in none", x.party(0, 5), -1);
        due("21 let again", x.let(0, 0), 1);
    }

    private static void hamAndRules() {
        PleasureGarden x = Check.garden(9, 0);
        due("24 0", x.ham(0), -1);
        due("24 10000", x.ham(10000), -1);
        due("24 1", x.ham(1), 1);
        for (int i = 1; i <= 10; i++) {
            due("24 9999", x.ham(9999), 1 + 9999 * i);
        }
        due("24 8 more", x.ham(8), 99999);
        due("24 above", x.ham(1), -3);
        due("24 FULL changes nothing", x.count(7), 99999);
        due("25 slice 4", x.rule(0, 4), -1);
        due("25 slice 100", x.rule(0, 100), -1);
        due("25 slice 5", x.rule(0, 5), 10);
        due("25 slice 99", x.rule(0, 99), 5);
        due("25 waiters -1", x.rule(1, -1), -1);
        due("25 waiters 10", x.rule(1, 10), -1);
        due("25 waiters 0", x.rule(1, 0), 1);
        due("25 waiters 9", x.rule(1, 9), 0);
        due("25 what -1", x.rule(-1, 7), -1);
        due("25 what 2", x.rule(2, 7), -1);
        x.close();
        due("25 slice stays", x.rule(0, 10), 99);
        due("25 waiters stay", x.rule(1, 1), 9);
        due("24 hams stay", x.count(7), 99999);
    }

    private static void orders() {
        PleasureGarden x = Check.garden(9, 0);
        x.box(0, 9);
        x.enter(0, 1);
        due("26 in no box", x.order(0, 1), -2);
        due("26 BAD ahead of NOT", x.order(0, 0), -1);
        x.let(0, 0);
        due("26 no party", x.order(1, 1), -1);
        due("26 party -1", x.order(-1, 1), -1);
        due("26 slices 0", x.order(0, 0), -1);
        due("26 slices 100", x.order(0, 100), -1);
        for (int i = 1; i <= 60; i++) {
            due("26 order " + i, x.order(0, i == 1 ? 99 : 1), i);
        }
        due("26 the 61st", x.order(0, 1), -3);
        x.enter(1, 1);
        due("26 NOT ahead of FULL", x.order(1, 1), -2);
        due("26 how many", x.count(6), 60);
        x.close();
        due("26 none in a new night", x.count(6), 0);
    }

    private static void waiters() {
        PleasureGarden x = Check.garden(99, 0);
        x.box(0, 9);
        x.box(0, 9);
        x.enter(0, 2);
        x.enter(1, 3);
        x.let(0, 0);
        x.let(1, 1);
        Check.price(x, 1, 0, "s*p");
        x.ham(1000);
        x.order(0, 1);
        x.order(1, 2);
        x.order(0, 4);
        x.order(1, 8);
        due("26 calls serve nothing", x.count(15), 0);
        x.rule(1, 0);
        x.minutes(1);
        due("26 no waiters", x.count(6), 4);
        x.rule(1, 2);
        x.minutes(1);
        due("26 two of them", x.count(6), 2);
        due("26 grams", x.count(7), 970);
        due("26 slices of 0", x.party(0, 8), 1);
        due("26 slices of 1", x.party(1, 8), 2);
        due("26 paid by 0", x.party(0, 6), 2);
        due("26 paid by 1", x.party(1, 6), 6);
        x.rule(0, 20);
        x.rule(1, 9);
        x.minutes(1);
        due("26 slice as it is now", x.count(7), 730);
        due("26 served in all", x.count(15), 15);
        due("26 takings", x.count(14), 2 + 6 + 8 + 24);
        x.close();
        due("26 served in all stays", x.count(15), 15);
    }

    private static void lacking() {
        PleasureGarden x = Check.garden(99, 0);
        x.box(0, 9);
        x.enter(0, 2);
        x.let(0, 0);
        x.ham(50);
        x.order(0, 6);
        x.order(0, 5);
        x.minutes(1);
        due("26 lacking: to the end", x.count(6), 2);
        x.minutes(1);
        due("26 the next is served, to the gram", x.count(7), 0);
        due("26 one left", x.count(6), 1);
        x.ham(59);
        x.minutes(1);
        due("26 lacking twice: away", x.count(6), 0);
        due("26 nothing cut", x.count(7), 59);
        x.order(0, 6);
        x.minutes(1);
        x.ham(1);
        x.minutes(1);
        due("26 lacking once, then served", x.party(0, 8), 11);
        due("26 row is empty", x.count(6), 0);
    }

    private static void notTwiceInAMinute() {
        PleasureGarden x = Check.garden(99, 0);
        x.box(0, 9);
        x.enter(0, 2);
        x.let(0, 0);
        x.rule(1, 9);
        x.order(0, 1);
        x.order(0, 2);
        x.minutes(1);
        due("26 looked at once each", x.count(6), 2);
        x.order(0, 3);
        x.rule(1, 2);
        x.minutes(1);
        due("26 those two are away, the third was not looked at", x.count(6), 1);
        x.minutes(1);
        due("26 the third lacks", x.count(6), 1);
        x.minutes(1);
        due("26 and goes", x.count(6), 0);
    }

    private static void lackingKeepsItsParty() {
        PleasureGarden x = Check.garden(99, 0);
        for (int i = 0; i < 3; i++) {
            x.box(0, 9);
            x.enter(i, 1);
            x.let(i, i);
            x.order(i, i + 1);
        }
        x.minutes(1);
        x.rise(1);
        due("22 from the row's middle", x.count(6), 2);
        x.ham(100);
        x.minutes(2);
        due("26 the one that lacked", x.party(0, 8), 1);
        due("26 the one whose order went", x.party(1, 8), 0);
        due("26 the one that stood behind", x.party(2, 8), 3);
        x.order(0, 1);
        x.let(1, 1);
        x.order(1, 2);
        x.rise(1);
        due("22 not the first of the row", x.count(6), 1);
    }

    private static void ordersGoAway() {
        PleasureGarden x = Check.garden(99, 0, 99, 0);
        x.walk(0, 1, 1);
        for (int i = 0; i < 4; i++) {
            x.box(0, 9);
            x.enter(i, 1);
            x.let(i, i);
        }
        for (int i = 0; i < 12; i++) {
            x.order(i % 4, i + 1);
        }
        x.rise(0);
        due("22 its orders go away", x.count(6), 9);
        x.go(1, 1);
        due("8 its orders go away", x.count(6), 6);
        x.leave(2);
        due("9 its orders go away", x.count(6), 3);
        x.ham(9999);
        x.let(0, 0);
        due("26 behind those left", x.order(0, 50), 4);
        x.minutes(2);
        due("26 in their order", x.party(3, 8), 4 + 8);
        x.minutes(2);
        due("26 all", x.count(15), 4 + 8 + 12 + 50);
    }
}
