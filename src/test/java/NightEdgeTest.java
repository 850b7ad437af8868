/** Promises 31 to 37 at their edges (the nights of section 5, and section 6), a sentence at a time. */
public final class NightEdgeTest extends Edges {
    public static void main(String[] args) {
        closeTakings();
        closePartiesByNumbers();
        closeKeepsRain();
        closeBeginsANight();
        closeKeepsAllElse();
        lastNight();
        nightNumbers();
        nightTells();
        foretoldNumbers();
        foretoldWithoutNights();
        foretoldDiffersLeast();
        foretoldRoundedDown();
        stolenNumbers();
        stolenInAMinuteThatWas();
        twentyThefts();
        nearNumbers();
        nearWhenTheMinuteHadGoneBy();
        nearInMinuteZero();
        nearInMinuteZeroLater();
        nearAfterRainAndArrivals();
        nearOfPlacesMadeLater();
        doubtNumbers();
        doubtOfEachTheft();
        theftsOfThisNight();
        mostComingsAndGoings();
        countNumbers();
        countTakingsBelowZero();
        CHECK.finish();
    }

    /** "all that PRICES of KIND 0 and 1 gave, less KIND 2". */
    private static void closeTakings() {
        story().due("31 nothing", 0, x -> x.close());
        garden().price(0, 0, "30").price(1, 0, "s").price(2, 0, "100")
            .with(x -> x.box(0, 9), x -> x.enter(0, 2), x -> x.let(0, 0), x -> x.ham(99), x -> x.order(0, 5))
            .with(x -> x.minutes(1))
            .due("37 by now", 35, x -> x.count(14))
            .due("31 with the refund", -65, x -> x.close())
            .due("32 kept", -65, x -> x.night(0, 0));
    }

    /** "all PARTIES are OUT (with REFUNDS, by numbers)". */
    private static void closePartiesByNumbers() {
        garden().price(2, 0, "c*100").with(x -> x.enter(0, 1), x -> x.enter(1, 2), x -> x.enter(2, 4), x -> x.leave(1))
            .due("37 one is out", -700, x -> x.count(14))
            .with(x -> x.go(0, 1))
            .due("31 one walks, one is there; who is out gets none", -700 - 500 - 400, x -> x.close());
    }

    /** "MINUTES of RAIN (of 0 .. MINUTE) are kept". */
    private static void closeKeepsRain() {
        story(x -> x.rain(0, 480), x -> x.close()).due("32 minute 0 alone", 1, x -> x.night(0, 1));
        story(x -> x.rain(0, 480), x -> x.minutes(9), x -> x.close()).due("32 0 .. 9", 10, x -> x.night(0, 1));
        story(x -> x.rain(3, 5), x -> x.rain(4, 6), x -> x.minutes(4), x -> x.close())
            .due("32 3 and 4, each once", 2, x -> x.night(0, 1));
        story(x -> x.rain(1, 5), x -> x.close()).due("32 none of what was to come", 0, x -> x.night(0, 1));
        toTheEnd(story(x -> x.rain(0, 480))).with(x -> x.close()).due("32 all of a night", 480, x -> x.night(0, 1));
    }

    /** "then NIGHT is one more, MINUTE 0, no RAIN, no PARTIES, no ORDERS, no light". */
    private static void closeBeginsANight() {
        garden().price(0, 0, "r").with(x -> x.box(0, 9), x -> x.lamp(1), x -> x.rain(0, 480), x -> x.minutes(2))
            .with(x -> x.enter(0, 20), x -> x.let(0, 0), x -> x.order(0, 1), x -> x.light(0, -1), x -> x.minutes(1))
            .with(x -> x.stolen(1, 0), x -> x.close())
            .due("31 NIGHT is one more", 1, x -> x.count(9))
            .due("31 MINUTE 0", 0, x -> x.count(10))
            .due("31 no PARTIES", 0, x -> x.count(1))
            .due("31 no HEADS that are in", 0, x -> x.count(2))
            .due("31 no HEADS at the gate", 0, x -> x.heads(0))
            .due("31 no ORDERS", 0, x -> x.count(6))
            .due("31 no light", NOT, x -> x.burns(0))
            .due("31 no CRUSH", 0, x -> x.count(13))
            .due("31 no TAKINGS", 0, x -> x.count(14))
            .due("31 no thefts", BAD, x -> x.near(0))
            .with(x -> x.enter(0, 1))
            .due("31 no RAIN", 0, x -> x.gives(0, 0, 0))
            .due("31 no spans", 1, x -> x.rain(0, 1));
    }

    /** "HAMS, TICKETS, PLACES and all else stay". */
    private static void closeKeepsAllElse() {
        garden().price(0, 0, "7").feed("12").with(x -> x.box(0, 9), x -> x.lamp(1), x -> x.lamp(2), x -> x.fuse(0, 1, 5))
            .with(x -> x.ham(77), x -> x.rule(0, 5), x -> x.rule(1, 0), x -> x.enter(0, 1), x -> x.enter(0, 1))
            .with(x -> x.let(0, 0), x -> x.order(0, 1), x -> x.rule(1, 9), x -> x.minutes(1), x -> x.close())
            .due("31 PLACES", 4, x -> x.count(0))
            .due("31 walks", 5, x -> x.way(0, 2))
            .due("31 TICKETS", 0, x -> x.sell(0, 299))
            .due("31 LAMPS", 2, x -> x.count(3))
            .due("31 FUSES", 1, x -> x.count(4))
            .due("31 BOXES", 1, x -> x.count(5))
            .due("31 HAMS", 72, x -> x.count(7))
            .due("31 SLICE", 5, x -> x.rule(0, 5))
            .due("31 WAITERS", 9, x -> x.rule(1, 9))
            .due("31 PRICES", 1, x -> x.count(8))
            .due("31 THE TAPE", 2, x -> x.count(11))
            .due("31 FORGED in all", 1, x -> x.count(12))
            .due("31 SLICES SERVED in all", 1, x -> x.count(15));
    }

    /** "NIGHT is a count, 0 at first, at most 199"; 31: "NOT: it is NIGHT 199". */
    private static void lastNight() {
        Story s = garden().price(0, 0, "9");
        for (int i = 0; i < 198; i++) {
            s.due("31 night " + i, 0, x -> x.close());
        }
        s.with(x -> x.enter(0, 2)).due("31 night 198 is closed", 9, x -> x.close());
        s.due("37 night 199", 199, x -> x.count(9));
        s.due("32 the last closed one", 9, x -> x.night(198, 0));
        s.refuses("31 it is night 199", NOT, x -> x.close());
        s.with(x -> x.enter(0, 2), x -> x.go(0, 1), x -> x.rain(0, 9), x -> x.minutes(5));
        s.refuses("31 whatever is in it", NOT, x -> x.close());
        s.refuses("32 it is never closed", VOID, x -> x.night(199, 0));
    }

    /** 32: "Of a CLOSED NIGHT: 0 .. 1 .. 2 ... VOID: BAD". */
    private static void nightNumbers() {
        garden().with(x -> x.enter(0, 4), x -> x.close(), x -> x.enter(0, 5), x -> x.close(), x -> x.enter(0, 6))
            .bounds("32 a closed night", 0, 1, VOID, v -> x -> x.night(v, 2))
            .bounds("32 what 0, 1, 2", 0, 2, VOID, v -> x -> x.night(0, v))
            .refuses("32 neither", VOID, x -> x.night(2, 3), x -> x.night(-1, -1));
    }

    private static void nightTells() {
        garden().price(0, 0, "p").with(x -> x.enter(0, 20), x -> x.enter(0, 1), x -> x.enter(1, 3), x -> x.leave(1))
            .with(x -> x.rain(1, 2), x -> x.minutes(3), x -> x.close())
            .due("32 TAKINGS", 23, x -> x.night(0, 0))
            .due("32 MINUTES of RAIN", 1, x -> x.night(0, 1))
            .due("32 HEADS that came, those that left, too, no forged ones", 23, x -> x.night(0, 2))
            .with(x -> x.close())
            .due("32 nothing in the next one", 0, x -> x.night(1, 2))
            .due("32 the first is as it was", 23, x -> x.night(0, 2));
    }

    /** "a told number of MINUTES of RAIN (0 .. 480)". */
    private static void foretoldNumbers() {
        garden().price(0, 0, "p").with(x -> x.enter(0, 4), x -> x.close())
            .bounds("33 MINUTES of RAIN (0 .. 480)", 0, 480, VOID, v -> x -> x.foretold(v))
            .due("33 the only one", 4, x -> x.foretold(480));
    }

    /** 33: "VOID: BAD, or no NIGHT is CLOSED". */
    private static void foretoldWithoutNights() {
        garden().price(0, 0, "p").with(x -> x.enter(0, 4), x -> x.minutes(1))
            .refuses("33 no night is closed", VOID, x -> x.foretold(0), x -> x.foretold(480), x -> x.foretold(-1))
            .with(x -> x.close())
            .due("33 one is", 4, x -> x.foretold(0));
    }

    /** A night of so much rain, and a party of so many heads, each of which pays 10. */
    private static void closed(Story s, int rain, int heads) {
        s.with(x -> x.enter(0, heads), x -> rain == 0 ? 0 : x.rain(0, rain), x -> x.minutes(50), x -> x.close());
    }

    /** "those CLOSED NIGHTS whose MINUTES of RAIN differ least from it (all of these)". */
    private static void foretoldDiffersLeast() {
        Story s = garden().price(0, 0, "p*10");
        closed(s, 4, 1);
        closed(s, 10, 3);
        closed(s, 4, 6);
        s.due("33 as much rain: both of them", 35, x -> x.foretold(4));
        s.due("33 less than any", 35, x -> x.foretold(0));
        s.due("33 nearer to 4", 35, x -> x.foretold(6));
        s.due("33 as near to either: all three", 33, x -> x.foretold(7));
        s.due("33 nearer to 10", 30, x -> x.foretold(8));
        s.due("33 as much rain: one", 30, x -> x.foretold(10));
        s.due("33 more than any", 30, x -> x.foretold(480));
        closed(s, 0, 20);
        s.due("33 a dry one", 200, x -> x.foretold(0));
        s.due("33 between 0 and 4", 90, x -> x.foretold(2));
        s.with(x -> x.enter(0, 20)).due("33 not the night that is", 200, x -> x.foretold(1));
    }

    /** "the mean (rounded down)". */
    private static void foretoldRoundedDown() {
        Story s = garden().price(0, 0, "p").price(2, 0, "n>1:20");
        closed(s, 0, 1);
        closed(s, 0, 2);
        s.due("33 of 1 and 2", 1, x -> x.foretold(0));
        closed(s, 1, 19);
        s.due("33 -1 alone", -1, x -> x.foretold(1));
        closed(s, 1, 18);
        s.due("33 of -1 and -2: down, not towards 0", -2, x -> x.foretold(1));
        closed(s, 1, 20);
        s.due("33 of -1, -2 and 0", -1, x -> x.foretold(1));
        closed(s, 1, 20);
        s.due("33 of -1, -2, 0 and 0", -1, x -> x.foretold(1));
    }

    /** 34: "in a MINUTE (0 .. now) at a PLACE". */
    private static void stolenNumbers() {
        garden().with(x -> x.enter(0, 1))
            .bounds("34 minute 0 alone", 0, 0, BAD, v -> x -> x.stolen(v, 0))
            .with(x -> x.minutes(5))
            .bounds("34 a MINUTE (0 .. now)", 0, 5, BAD, v -> x -> x.stolen(v, 0))
            .bounds("34 a place", 0, 3, BAD, v -> x -> x.stolen(5, v))
            .refuses("34 neither", BAD, x -> x.stolen(6, 4), x -> x.stolen(-1, -1));
    }

    private static void stolenInAMinuteThatWas() {
        toTheEnd(garden().with(x -> x.enter(0, 1)))
            .due("34 in the last minute", 1, x -> x.stolen(479, 0))
            .due("34 in the first one", 2, x -> x.stolen(0, 0))
            .due("34 the same again", 3, x -> x.stolen(0, 0))
            .refuses("34 beyond the night", BAD, x -> x.stolen(480, 0))
            .due("35 in the last minute", 1, x -> x.near(0))
            .due("35 in the first one", 1, x -> x.near(1))
            .with(x -> x.close())
            .refuses("34 minute 479 is not yet", BAD, x -> x.stolen(479, 0), x -> x.stolen(1, 0));
    }

    /** 34: "how many were told this NIGHT .. FULL: 20". */
    private static void twentyThefts() {
        Story s = garden().with(x -> x.enter(0, 1), x -> x.minutes(2));
        for (int i = 1; i <= 20; i++) {
            int theft = i;
            s.due("34 theft " + theft, theft, x -> x.stolen(theft % 3, theft % 4));
        }
        s.refuses("34 the 21st", FULL, x -> x.stolen(0, 0), x -> x.stolen(2, 3));
        s.refuses("34 BAD is named ahead of FULL", BAD, x -> x.stolen(3, 0), x -> x.stolen(0, 4), x -> x.stolen(-1, 0));
        s.due("35 the last one", 1, x -> x.near(19));
        s.with(x -> x.close()).due("34 a new night has none", 1, x -> x.stolen(0, 0));
    }

    private static void nearNumbers() {
        garden().with(x -> x.enter(0, 1), x -> x.stolen(0, 0), x -> x.stolen(0, 1))
            .bounds("35 a theft that was told", 0, 1, BAD, v -> x -> x.near(v))
            .due("35 parties, not heads", 1, x -> x.near(0))
            .due("35 nobody", 0, x -> x.near(1));
    }

    /** "AT it when that MINUTE had gone by (..; what calls did in it does not count". */
    private static void nearWhenTheMinuteHadGoneBy() {
        garden().with(x -> x.enter(0, 5), x -> x.enter(1, 5), x -> x.minutes(3), x -> x.stolen(3, 0), x -> x.stolen(2, 0))
            .due("35 both", 2, x -> x.near(0))
            .with(x -> x.leave(0), x -> x.go(1, 1), x -> x.enter(2, 1))
            .due("35 who left and went in it was there", 2, x -> x.near(0))
            .due("36 who left", 2, x -> x.doubt(0))
            .due("36 who went", 2, x -> x.doubt(1))
            .due("36 who came in it was not", 0, x -> x.doubt(2))
            .with(x -> x.minutes(1), x -> x.stolen(4, 0))
            .due("35 in the next minute", 1, x -> x.near(2))
            .due("36 it was there then", 1, x -> x.doubt(2))
            .due("35 and as it was in the other", 2, x -> x.near(0))
            .with(x -> x.enter(3, 1), x -> x.leave(3), x -> x.minutes(1), x -> x.stolen(5, 0), x -> x.stolen(4, 0))
            .due("36 who came and left between two minutes", 0, x -> x.doubt(3));
    }

    /** "of MINUTE 0: as now, while it lasts". */
    private static void nearInMinuteZero() {
        garden().with(x -> x.stolen(0, 0))
            .due("35 nobody", 0, x -> x.near(0))
            .with(x -> x.enter(0, 1))
            .due("35 one", 1, x -> x.near(0))
            .with(x -> x.enter(1, 1), x -> x.enter(2, 1))
            .due("35 three", 3, x -> x.near(0))
            .with(x -> x.leave(0), x -> x.go(1, 1))
            .due("35 one is out, one walks", 1, x -> x.near(0))
            .due("36 it is out now", 0, x -> x.doubt(0))
            .due("36 it walks now", 0, x -> x.doubt(1))
            .due("36 it is there now", 1, x -> x.doubt(2))
            .with(x -> x.close(), x -> x.enter(0, 1), x -> x.stolen(0, 0))
            .due("35 of another night", 1, x -> x.near(0));
    }

    /** ".. and later as it was at its end". */
    private static void nearInMinuteZeroLater() {
        garden().with(x -> x.enter(0, 1), x -> x.enter(1, 1), x -> x.leave(0), x -> x.enter(2, 1), x -> x.minutes(1))
            .with(x -> x.leave(1), x -> x.enter(3, 1), x -> x.stolen(0, 0))
            .due("35 those that were there at its end", 2, x -> x.near(0))
            .due("36 left in minute 0", 0, x -> x.doubt(0))
            .due("36 left in minute 1", 1, x -> x.doubt(1))
            .due("36 still there", 1, x -> x.doubt(2))
            .due("36 came in minute 1", 0, x -> x.doubt(3));
        story(x -> x.place(9, 0), x -> x.place(9, 1), x -> x.walk(0, 1, 1), x -> x.sell(0, 9), x -> x.rain(1, 2))
            .with(x -> x.enter(0, 1), x -> x.enter(1, 1), x -> x.go(0, 1), x -> x.minutes(1))
            .with(x -> x.stolen(0, 0), x -> x.stolen(0, 1), x -> x.stolen(1, 0), x -> x.stolen(1, 1))
            .due("35 whom rain sent away in minute 1 was there", 1, x -> x.near(0))
            .due("35 who came in minute 1 was not yet", 0, x -> x.near(1))
            .due("35 in minute 1 nobody was left", 0, x -> x.near(2))
            .due("35 in minute 1 one was there", 1, x -> x.near(3));
    }

    /** "(behind its waiters, as for CRUSH": behind arrivals and rain. */
    private static void nearAfterRainAndArrivals() {
        garden().with(x -> x.enter(0, 1), x -> x.go(0, 2), x -> x.minutes(4), x -> x.enter(1, 1), x -> x.rain(5, 6))
            .with(x -> x.minutes(1), x -> x.stolen(5, 2), x -> x.stolen(5, 0), x -> x.stolen(4, 2), x -> x.stolen(4, 0))
            .due("35 it came in that minute", 1, x -> x.near(0))
            .due("35 rain sent it away in that minute", 0, x -> x.near(1))
            .due("35 it walked in the minute ahead", 0, x -> x.near(2))
            .due("35 it came behind the minute ahead", 0, x -> x.near(3))
            .with(x -> x.minutes(5), x -> x.stolen(10, 2), x -> x.stolen(9, 2))
            .due("35 under cover", 2, x -> x.near(4))
            .due("35 a minute earlier", 1, x -> x.near(5));
        garden().with(x -> x.box(0, 9), x -> x.enter(0, 1), x -> x.let(0, 0), x -> x.minutes(1), x -> x.stolen(1, 0))
            .due("35 in a box there", 1, x -> x.near(0));
    }

    private static void nearOfPlacesMadeLater() {
        garden().with(x -> x.enter(0, 1), x -> x.minutes(1), x -> x.place(9, 0))
            .due("34 a place that was not there yet", 1, x -> x.stolen(0, 4))
            .due("35 nobody was", 0, x -> x.near(0));
    }

    private static void doubtNumbers() {
        garden().with(x -> x.enter(0, 1), x -> x.enter(1, 1), x -> x.stolen(0, 0))
            .bounds("36 a party", 0, 1, BAD, v -> x -> x.doubt(v))
            .with(x -> x.close())
            .refuses("36 of this night", BAD, x -> x.doubt(0));
    }

    /** "how many of them it was NEAR". */
    private static void doubtOfEachTheft() {
        Story s = garden().with(x -> x.enter(0, 1), x -> x.enter(1, 1));
        s.due("36 no theft", 0, x -> x.doubt(0));
        s.withEach(1, 20, i -> x -> x.stolen(0, 0)).due("36 all twenty, though of one minute", 20, x -> x.doubt(0));
        s.with(x -> x.leave(1)).due("36 it was not there at the end", 0, x -> x.doubt(1));
        garden().with(x -> x.enter(0, 1), x -> x.go(0, 1), x -> x.minutes(2), x -> x.go(0, 0), x -> x.minutes(4))
            .with(x -> x.stolen(2, 1), x -> x.stolen(2, 0), x -> x.stolen(4, 0), x -> x.stolen(3, 0), x -> x.stolen(6, 0))
            .due("36 at the place, in the minute", 3, x -> x.doubt(0));
    }

    private static void theftsOfThisNight() {
        garden().with(x -> x.enter(0, 1), x -> x.minutes(3), x -> x.stolen(2, 0), x -> x.close())
            .refuses("35 told in another night", BAD, x -> x.near(0))
            .with(x -> x.enter(1, 1), x -> x.minutes(3), x -> x.stolen(2, 0))
            .due("35 only who is here in this night", 1, x -> x.near(0))
            .due("36 it", 1, x -> x.doubt(0));
        garden().with(x -> x.enter(0, 1), x -> x.go(0, 1), x -> x.minutes(5), x -> x.close())
            .with(x -> x.stolen(0, 0))
            .due("35 nobody came yet in this night", 0, x -> x.near(0))
            .with(x -> x.enter(0, 1), x -> x.minutes(5), x -> x.stolen(4, 1))
            .due("35 nobody was there in this night", 0, x -> x.near(1))
            .due("36 only at the gate, in minute 0 of this night", 1, x -> x.doubt(0));
    }

    /** As many stays as 512 calls can make: a hundred parties, sent under cover and called back. */
    private static void mostComingsAndGoings() {
        Story s = story(x -> x.place(1, 0), x -> x.place(1, 1), x -> x.walk(0, 1, 1), x -> x.sell(0, 99));
        s.withEach(0, 4, i -> x -> x.rain(2 + 5 * i, 4 + 5 * i)).withEach(0, 99, i -> x -> x.enter(i, 20));
        s.with(x -> x.minutes(4));
        for (int round = 0; round < 3; round++) {
            s.withEach(0, 99, i -> x -> x.go(i, 0)).with(x -> x.minutes(5));
        }
        s.withEach(0, 69, i -> x -> x.go(i, 0)).with(x -> x.minutes(5));
        int[] minutes = {1, 2, 3, 5, 6, 7, 16, 17, 18, 20, 23};
        int[] atTheGate = {100, 0, 0, 100, 100, 0, 100, 0, 0, 70, 0};
        for (int i = 0; i < minutes.length; i++) {
            int theft = i;
            s.with(x -> x.stolen(minutes[theft], 0));
            s.due("35 at the gate in minute " + minutes[i], atTheGate[i], x -> x.near(theft));
        }
    }

    /** 37: "BAD". */
    private static void countNumbers() {
        garden().with(x -> x.enter(0, 1)).bounds("37 what 0 .. 15", 0, 15, BAD, v -> x -> x.count(v));
    }

    /** 37: "BAD (of 14 it may be -1, too)". */
    private static void countTakingsBelowZero() {
        garden().price(2, 0, "1").with(x -> x.enter(0, 1), x -> x.leave(0))
            .due("37 TAKINGS of -1", -1, x -> x.count(14))
            .due("31 and so told", -1, x -> x.close())
            .due("32 and so kept", -1, x -> x.night(0, 0));
    }
}
