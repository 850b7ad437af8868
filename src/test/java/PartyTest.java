/** Promises 6 to 12: sell, enter, go, leave, party, heads, minutes (with rain and crush). */
public final class PartyTest {
    private static final Check CHECK = new Check();

    private static void due(String call, long got, long want) {
        CHECK.due(call, got, want);
    }

    public static void main(String[] args) {
        sells();
        enters();
        manyEnter();
        goes();
        leaves();
        tells();
        minutesGoBy();
        rainSendsAway();
        rainThatWasThere();
        crushIsTold();
        CHECK.finish();
    }

    private static void sells() {
        PleasureGarden x = new PleasureGarden();
        due("6 one", x.sell(7, 7), 1);
        due("6 again", x.sell(7, 7), 0);
        due("6 around it", x.sell(5, 9), 4);
        due("6 the last", x.sell(299, 299), 1);
        due("6 beyond", x.sell(290, 300), -1);
        due("6 negative", x.sell(-1, 4), -1);
        due("6 backwards", x.sell(4, 3), -1);
        due("6 BAD sold none", x.sell(0, 299), 294);
    }

    private static void enters() {
        PleasureGarden x = new PleasureGarden();
        x.sell(0, 9);
        due("7 no place", x.enter(0, 1), -2);
        due("7 BAD ahead of NOT", x.enter(0, 0), -1);
        x.place(100, 0);
        due("7 not sold", x.enter(10, 1), -2);
        due("7 the last number, not sold", x.enter(299, 1), -2);
        due("7 ticket -1", x.enter(-1, 1), -1);
        due("7 ticket 300", x.enter(300, 1), -1);
        due("7 heads 21", x.enter(0, 21), -1);
        due("7 first", x.enter(0, 20), 0);
        due("7 second", x.enter(9, 1), 1);
        due("7 comes twice", x.enter(0, 3), -5);
        due("7 it is counted", x.count(12), 1);
        due("7 none came by it", x.count(1), 2);
        due("7 at the gate", x.party(0, 3), 0);
        x.place(5, 0);
        x.walk(0, 1, 5);
        x.go(0, 1);
        due("7 one that walks is in", x.enter(0, 3), -5);
        x.leave(1);
        due("7 out, so not forged", x.enter(9, 2), 2);
        x.close();
        due("7 numbers begin anew", x.enter(0, 3), 0);
        due("7 forged stay counted", x.count(12), 2);
    }

    private static void manyEnter() {
        PleasureGarden x = Check.garden(999, 0);
        for (int i = 0; i < 100; i++) {
            due("7 party " + i, x.enter(i, 1), i);
        }
        due("7 the 101st", x.enter(100, 1), -3);
        due("7 FORGED is named ahead of FULL", x.enter(99, 1), -5);
        x.leave(3);
        due("7 those that left count", x.enter(100, 1), -3);
        due("7 heads in", x.count(2), 99);
    }

    private static void goes() {
        PleasureGarden x = Check.garden(9, 0, 9, 0, 9, 0, 9, 0);
        x.walk(0, 1, 2);
        x.walk(1, 2, 3);
        x.enter(0, 2);
        due("8 no party", x.go(1, 1), -1);
        due("8 party -1", x.go(-1, 1), -1);
        due("8 no place", x.go(0, 4), -1);
        due("8 is there", x.go(0, 0), -2);
        due("8 no way", x.go(0, 3), -4);
        due("8 goes", x.go(0, 2), 5);
        due("8 walks", x.go(0, 3), -2);
        x.walk(0, 1, 60);
        due("8 by the way as it was", x.party(0, 4), 5);
        x.minutes(5);
        due("8 is there", x.party(0, 3), 2);
        due("8 on", x.go(0, 1), 3);
        x.minutes(3);
        due("8 back", x.go(0, 0), 60);
        x.minutes(60);
        x.leave(0);
        due("8 out", x.go(0, 1), -2);
    }

    private static void leaves() {
        PleasureGarden x = Check.garden(9, 0, 9, 0);
        x.walk(0, 1, 1);
        Check.price(x, 2, 0, "p*3+c");
        x.enter(0, 4);
        x.enter(1, 5);
        due("9 no party", x.leave(2), -1);
        due("9 party -1", x.leave(-1), -1);
        due("9 refund, its own heads too", x.leave(0), 21);
        due("9 once only", x.leave(0), -2);
        due("9 takings", x.count(14), -21);
        x.go(1, 1);
        due("9 walks", x.leave(1), -2);
        x.minutes(1);
        due("9 elsewhere", x.leave(1), -2);
        x.go(1, 0);
        due("9 walks to the gate", x.leave(1), -2);
        x.minutes(1);
        due("9 at the gate again", x.leave(1), 20);
        due("9 nobody is in", x.count(2), 0);
        due("9 none at the gate", x.heads(0), 0);
    }

    private static void tells() {
        PleasureGarden x = Check.garden(9, 0, 9, 0);
        x.walk(0, 1, 2);
        Check.price(x, 0, 0, "7");
        Check.price(x, 1, 0, "s*2");
        Check.price(x, 2, 0, "3");
        x.box(0, 9);
        x.minutes(4);
        x.enter(8, 6);
        x.let(0, 0);
        x.ham(100);
        x.order(0, 5);
        x.minutes(1);
        tell(x, 6, 8, 0, 0, -1, 0, 17, 0, 5, 4);
        x.go(0, 1);
        tell(x, 6, 8, 1, 1, 7, -1, 17, 0, 5, 4);
        x.minutes(2);
        tell(x, 6, 8, 0, 1, -1, -1, 17, 0, 5, 4);
        x.go(0, 0);
        x.minutes(2);
        x.leave(0);
        tell(x, 6, 8, 2, -1, -1, -1, 17, 3, 5, 4);
        due("10 what -1", x.party(0, -1), -1);
        due("10 what 10", x.party(0, 10), -1);
        due("10 no party", x.party(1, 0), -1);
        due("10 party -1", x.party(-1, 0), -1);
        x.close();
        due("10 none of the new night", x.party(0, 0), -1);
        x.enter(9, 2);
        tell(x, 2, 9, 0, 0, -1, -1, 7, 0, 0, 0);
    }

    private static void tell(PleasureGarden x, int... want) {
        for (int what = 0; what < want.length; what++) {
            due("10 party(0, " + what + ")", x.party(0, what), want[what]);
        }
    }

    private static void minutesGoBy() {
        PleasureGarden x = Check.garden(9, 0, 9, 0);
        x.walk(0, 1, 1);
        x.box(0, 3);
        x.enter(0, 3);
        x.enter(1, 4);
        x.enter(2, 5);
        x.let(0, 0);
        x.go(2, 1);
        due("11 those in boxes, too, walking ones nowhere", x.heads(0), 7);
        due("11 nobody there yet", x.heads(1), 0);
        due("11 no place", x.heads(2), -1);
        due("11 place -1", x.heads(-1), -1);
        due("12 n 0", x.minutes(0), -1);
        due("12 n 61", x.minutes(61), -1);
        due("12 n -1", x.minutes(-1), -1);
        due("12 one", x.minutes(1), 1);
        due("11 come", x.heads(1), 5);
        for (int i = 1; i <= 7; i++) {
            due("12 sixty", x.minutes(60), 1 + 60 * i);
        }
        due("12 beyond 479", x.minutes(59), -1);
        due("12 nothing went by", x.count(10), 421);
        due("12 to the last", x.minutes(58), 479);
        due("12 beyond the last", x.minutes(1), -1);
    }

    private static void rainSendsAway() {
        PleasureGarden x = Check.garden(9, 1, 9, 0, 9, 1, 9, 1, 9, 0);
        x.walk(0, 1, 1);
        x.walk(1, 2, 4);
        x.walk(1, 3, 4);
        x.box(1, 9);
        for (int i = 0; i < 5; i++) {
            x.enter(i, 1);
        }
        for (int i = 0; i < 4; i++) {
            x.go(i, 1);
        }
        x.minutes(1);
        x.let(0, 1);
        x.go(2, 0);
        x.rain(3, 5);
        x.minutes(1);
        x.go(2, 1);
        x.minutes(1);
        due("12 not to the gate, of two the lesser", x.party(0, 3), 2);
        due("12 walks", x.party(0, 2), 1);
        due("12 from this minute", x.party(0, 4), 7);
        due("12 in a box rain moves nobody", x.party(1, 2), 0);
        due("12 its box", x.party(1, 5), 0);
        due("12 who comes in this minute goes at once", x.party(2, 3), 2);
        due("12 the third", x.party(3, 4), 7);
        due("12 a covered gate keeps", x.party(4, 3), 0);
        x.rise(1);
        x.minutes(1);
        due("12 only in the first minute of rain", x.party(1, 3), 1);
        x.walk(1, 3, 3);
        x.rain(7, 8);
        x.minutes(3);
        due("12 the nearest one by now", x.party(1, 3), 3);
        due("12 who is covered stays", x.party(0, 2), 0);

        PleasureGarden y = Check.garden(9, 0, 9, 0, 9, 1);
        y.walk(0, 1, 1);
        y.enter(0, 1);
        y.rain(1, 3);
        y.minutes(1);
        due("12 no way to a covered one: it stays", y.party(0, 3), 0);
        y.walk(1, 2, 1);
        y.minutes(1);
        due("12 it rained ahead of it", y.party(0, 3), 0);
        y.rain(4, 5);
        y.minutes(2);
        due("12 from an open gate, too", y.party(0, 3), 2);
    }

    private static void rainThatWasThere() {
        PleasureGarden x = Check.garden(9, 0, 9, 1);
        x.walk(0, 1, 1);
        x.enter(0, 1);
        x.rain(0, 3);
        x.minutes(1);
        due("12 it rained in minute 0", x.party(0, 2), 0);
        x.rain(1, 9);
        x.rain(3, 4);
        x.minutes(8);
        due("12 spans that join are one rain", x.party(0, 2), 0);
        x.rain(10, 11);
        x.minutes(1);
        due("12 minute 9 was dry", x.party(0, 2), 1);
    }

    private static void crushIsTold() {
        PleasureGarden x = Check.garden(3, 0, 2, 0);
        x.walk(0, 1, 2);
        x.box(0, 20);
        x.enter(0, 5);
        x.let(0, 0);
        due("13 not in minute 0", x.count(13), 0);
        x.minutes(1);
        due("13 in boxes, too", x.count(13), 2);
        x.enter(1, 4);
        due("13 calls add none", x.count(13), 2);
        x.minutes(1);
        due("13 added up", x.count(13), 8);
        x.go(1, 1);
        x.minutes(1);
        due("13 walking ones nowhere", x.count(13), 10);
        x.minutes(1);
        due("13 each place for itself", x.count(13), 14);
        x.close();
        due("13 of this night", x.count(13), 0);
    }
}
