/** Promises 31 to 37: close, night, foretold, stolen, near, doubt, count. */
public final class NightTest {
    private static final Check CHECK = new Check();

    private static void due(String call, long got, long want) {
        CHECK.due(call, got, want);
    }

    public static void main(String[] args) {
        closes();
        closesByNumbers();
        manyNights();
        foretold();
        thefts();
        theftsInMinuteZero();
        minuteZeroEndsAheadOfAllElse();
        picturesBehindAllElse();
        stolenLimits();
        counts();
        CHECK.finish();
    }

    private static void closes() {
        PleasureGarden x = Check.garden(2, 0, 9, 1);
        x.walk(0, 1, 3);
        Check.price(x, 0, 0, "100");
        x.enter(0, 4);
        x.enter(1, 5);
        x.go(1, 1);
        x.rain(0, 1);
        x.rain(2, 9);
        x.minutes(4);
        x.leave(0);
        x.stolen(0, 0);
        due("31 takings", x.close(), 200);
        due("32 takings", x.night(0, 0), 200);
        due("32 rain of 0 .. minute", x.night(0, 1), 4);
        due("32 heads that came", x.night(0, 2), 9);
        due("32 what 3", x.night(0, 3), PleasureGarden.VOID);
        due("32 what -1", x.night(0, -1), PleasureGarden.VOID);
        due("32 not closed", x.night(1, 0), PleasureGarden.VOID);
        due("32 night -1", x.night(-1, 0), PleasureGarden.VOID);
        due("31 night", x.count(9), 1);
        due("31 minute", x.count(10), 0);
        due("31 no parties", x.count(1), 0);
        due("31 nobody in", x.count(2), 0);
        due("31 no heads", x.heads(1), 0);
        due("31 crush", x.count(13), 0);
        due("31 takings of the new one", x.count(14), 0);
        due("31 no thefts", x.near(0), -1);
        due("31 walks stay", x.way(0, 1), 3);
        due("31 tickets stay", x.sell(0, 299), 0);
        due("31 prices stay", x.count(8), 1);
        x.enter(0, 1);
        x.minutes(3);
        due("31 no rain", x.party(0, 2), 0);
        due("31 thefts from 1", x.stolen(1, 0), 1);
        due("35 the old stays are no more", x.near(0), 1);
        x.close();
        due("32 dry", x.night(1, 1), 0);
        due("32 the first is kept", x.night(0, 2), 9);
        x.enter(0, 1);
        x.stolen(0, 0);
        due("35 minute 0 of a later night", x.near(0), 1);
        for (int i = 0; i < 7; i++) {
            x.minutes(60);
        }
        x.minutes(59);
        x.rain(479, 480);
        x.close();
        due("32 rain in the last minute", x.night(2, 1), 1);
    }

    private static void closesByNumbers() {
        PleasureGarden x = Check.garden(99, 0, 9, 0);
        x.walk(0, 1, 30);
        Check.price(x, 2, 0, "c*10+n");
        x.enter(0, 1);
        x.enter(1, 2);
        x.enter(2, 4);
        x.enter(3, 8);
        x.leave(1);
        x.go(2, 1);
        due("14 one refund", x.count(14), -150);
        due("31 the others by numbers, who walks too", x.close(), -150 - 130 - 120 - 80);
        x.enter(0, 1);
        due("31 with the price of its night", x.close(), -11);
    }

    private static void manyNights() {
        PleasureGarden x = Check.garden(9, 0);
        for (int i = 0; i < 199; i++) {
            due("31 night " + i, x.close(), 0);
        }
        due("31 night 199", x.close(), -2);
        due("31 it goes on", x.count(9), 199);
        x.minutes(5);
        due("31 still", x.close(), -2);
        due("31 NOT changes nothing", x.count(10), 5);
        due("32 the last closed one", x.night(198, 0), 0);
        due("32 that is not", x.night(199, 0), PleasureGarden.VOID);
    }

    private static void foretold() {
        PleasureGarden x = Check.garden(99, 0);
        due("33 none closed", x.foretold(0), PleasureGarden.VOID);
        x.close();
        due("33 a dry one, for all rain", x.foretold(480), 0);
        due("33 one closed", x.foretold(0), 0);
        x = Check.garden(99, 0);
        Check.price(x, 0, 0, "p*10+n");
        Check.price(x, 2, 0, "n>3:100");
        night(x, 10, 5);
        night(x, 20, 6);
        night(x, 10, 9);
        night(x, 0, 1);
        due("33 -1", x.foretold(-1), PleasureGarden.VOID);
        due("33 481", x.foretold(481), PleasureGarden.VOID);
        due("33 of one", x.foretold(480), 61);
        due("33 of two, alike", x.foretold(10), (50 + 92) / 2);
        due("33 either side", x.foretold(15), (50 + 61 + 92) / 3);
        due("33 nearer to 10", x.foretold(14), 71);
        due("33 nearer to 0", x.foretold(4), 13);
        due("33 midway", x.foretold(5), (13 + 50 + 92) / 3);
        night(x, 40, 1);
        due("33 below 0", x.foretold(40), -86);
        night(x, 40, 1);
        due("33 rounded down", x.foretold(41), -86);
        due("33 the takings", x.night(5, 0), -85);
    }

    private static void night(PleasureGarden x, int rain, int heads) {
        x.enter(0, heads);
        if (rain > 0) {
            x.rain(1, 1 + rain);
        }
        x.minutes(50);
        x.close();
    }

    private static void thefts() {
        PleasureGarden x = Check.garden(99, 0, 9, 0);
        x.walk(0, 1, 2);
        x.enter(0, 1);
        x.enter(1, 1);
        x.minutes(1);
        x.go(0, 1);
        x.minutes(1);
        x.enter(2, 1);
        x.minutes(1);
        x.go(0, 0);
        x.leave(1);
        x.minutes(3);
        due("34 minute 0", x.stolen(0, 0), 1);
        due("34 minute 1, gate", x.stolen(1, 0), 2);
        due("34 minute 2, gate", x.stolen(2, 0), 3);
        due("34 minute 3, place 1", x.stolen(3, 1), 4);
        due("34 minute 3, gate", x.stolen(3, 0), 5);
        due("34 minute 4, place 1", x.stolen(4, 1), 6);
        due("34 minute 5, gate", x.stolen(5, 0), 7);
        due("34 the same again", x.stolen(5, 0), 8);
        due("35 both came in minute 0", x.near(0), 2);
        due("35 what a call did in it does not count", x.near(1), 2);
        due("35 one walks, one came later in it", x.near(2), 1);
        due("35 come by 3, gone by a call", x.near(3), 1);
        due("35 gone by a call, one new", x.near(4), 2);
        due("35 nobody", x.near(5), 0);
        due("35 back, and the new one", x.near(6), 2);
        due("35 no theft", x.near(8), -1);
        due("35 -1", x.near(-1), -1);
        due("36 party 0", x.doubt(0), 5);
        due("36 party 1, out", x.doubt(1), 4);
        due("36 party 2", x.doubt(2), 3);
        due("36 no party", x.doubt(3), -1);
        due("36 -1", x.doubt(-1), -1);
    }

    private static void theftsInMinuteZero() {
        PleasureGarden x = Check.garden(99, 0, 9, 0);
        x.walk(0, 1, 1);
        x.stolen(0, 0);
        due("35 nobody yet", x.near(0), 0);
        x.enter(0, 1);
        x.enter(1, 1);
        x.enter(2, 1);
        due("35 as now", x.near(0), 3);
        x.leave(0);
        x.go(1, 1);
        due("35 as now, again", x.near(0), 1);
        due("36 gone", x.doubt(0), 0);
        due("36 there", x.doubt(2), 1);
        x.minutes(1);
        x.leave(2);
        x.enter(3, 1);
        due("35 as it was at its end", x.near(0), 1);
        due("36 as it was at its end", x.doubt(2), 1);
        due("36 a later one", x.doubt(3), 0);
    }

    private static void minuteZeroEndsAheadOfAllElse() {
        PleasureGarden x = Check.garden(99, 0, 9, 1);
        x.walk(0, 1, 1);
        x.enter(0, 1);
        x.enter(1, 1);
        x.go(0, 1);
        x.rain(1, 2);
        x.minutes(1);
        x.stolen(0, 0);
        x.stolen(0, 1);
        x.stolen(1, 0);
        x.stolen(1, 1);
        due("35 rain in minute 1 is not in 0", x.near(0), 1);
        due("35 who came in minute 1 is not in 0", x.near(1), 0);
        due("35 rain in minute 1", x.near(2), 0);
        due("35 came in minute 1", x.near(3), 1);
    }

    private static void picturesBehindAllElse() {
        PleasureGarden x = Check.garden(99, 0, 9, 1);
        x.walk(0, 1, 1);
        x.enter(0, 1);
        x.rain(2, 3);
        x.minutes(3);
        x.stolen(1, 0);
        x.stolen(2, 0);
        x.stolen(2, 1);
        x.stolen(3, 1);
        due("35 ahead of the rain", x.near(0), 1);
        due("35 rain moved it ahead of the picture", x.near(1), 0);
        due("35 it walks", x.near(2), 0);
        due("35 it came", x.near(3), 1);
        x.box(1, 1);
        x.let(0, 0);
        x.minutes(1);
        x.stolen(4, 1);
        due("35 in a box there", x.near(4), 1);
        x.go(0, 0);
        x.minutes(1);
        x.go(0, 1);
        x.minutes(1);
        due("36 back at the same place", x.doubt(0), 3);
    }

    private static void stolenLimits() {
        PleasureGarden x = Check.garden(9, 0);
        x.minutes(2);
        due("34 later", x.stolen(3, 0), -1);
        due("34 minute -1", x.stolen(-1, 0), -1);
        due("34 no place", x.stolen(1, 1), -1);
        due("34 place -1", x.stolen(1, -1), -1);
        for (int i = 1; i <= 20; i++) {
            due("34 theft " + i, x.stolen(i % 3, 0), i);
        }
        due("34 the 21st", x.stolen(1, 0), -3);
        due("34 BAD ahead of FULL", x.stolen(3, 0), -1);
        due("35 the last", x.near(19), 0);
    }

    private static void counts() {
        PleasureGarden x = Check.garden(3, 0, 9, 0, 9, 0);
        x.walk(0, 1, 1);
        Check.price(x, 0, 0, "p");
        Check.price(x, 1, 0, "100");
        x.enter(0, 4);
        x.enter(1, 5);
        x.enter(1, 5);
        x.enter(2, 6);
        x.leave(2);
        x.go(1, 1);
        for (int i = 0; i < 5; i++) {
            x.lamp(7);
        }
        x.fuse(0, 1, 1);
        x.fuse(0, 1, 1);
        x.box(0, 4);
        x.let(0, 0);
        x.ham(500);
        for (int i = 0; i < 8; i++) {
            x.order(0, 7);
        }
        x.close();
        x.enter(0, 4);
        x.enter(1, 5);
        x.enter(1, 5);
        x.enter(2, 6);
        x.leave(2);
        x.go(1, 1);
        x.let(0, 0);
        for (int i = 0; i < 8; i++) {
            x.order(0, 7);
        }
        x.minutes(2);
        x.feed(3, 0);
        int[] want = {3, 3, 9, 5, 2, 1, 6, 360, 2, 1, 2, 3, 2, 2, 215, 14};
        for (int what = 0; what < want.length; what++) {
            due("37 count(" + what + ")", x.count(what), want[what]);
        }
        due("37 what 16", x.count(16), -1);
        due("37 what -1", x.count(-1), -1);
    }
}
