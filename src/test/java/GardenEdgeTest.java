/** Promises 1 to 5 at their edges, a sentence of the document at a time. */
public final class GardenEdgeTest extends Edges {
    public static void main(String[] args) {
        newObjectHasNothing();
        newObjectRefuses();
        newObjectGoesOn();
        roomAndCover();
        sixteenPlaces();
        walkTakesOneToSixty();
        walkOfNoMinutes();
        walkBetweenTwoPlaces();
        walkTakesTheEarliersPlace();
        wayOfPlaces();
        wayIsTheLeast();
        wayOrNone();
        rainFromNow();
        rainToALaterOne();
        rainWithoutItsLastMinute();
        twentySpans();
        CHECK.finish();
    }

    /** 1: "NIGHT 0, MINUTE 0, no places, no lamps, no tickets sold." */
    private static void newObjectHasNothing() {
        Story s = story();
        for (int i = 0; i <= 15; i++) {
            int what = i;
            s.due("1 count(" + what + ")", 0, x -> x.count(what));
        }
        s.due("1 no ticket is sold", 300, x -> x.sell(0, 299));
        s.due("1 no lamp is dark", 0, x -> x.dark());
        s.due("1 no lamp is out", 0, x -> x.spent());
        s.due("1 SLICE 10 at first", 10, x -> x.rule(0, 10));
        s.due("1 WAITERS 1 at first", 1, x -> x.rule(1, 1));
        s.due("1 the first span of rain", 1, x -> x.rain(0, 1));
    }

    /** With nothing made yet there is no such place, party, box, lamp, price, night or theft. */
    private static void newObjectRefuses() {
        story()
            .refuses("1 no place yet", BAD, x -> x.walk(0, 1, 5), x -> x.way(0, 0), x -> x.heads(0),
                x -> x.box(0, 5), x -> x.stolen(0, 0))
            .refuses("1 no party yet", BAD, x -> x.go(0, 0), x -> x.leave(0), x -> x.party(0, 0), x -> x.rise(0),
                x -> x.order(0, 1), x -> x.doubt(0))
            .refuses("1 no lamp yet", BAD, x -> x.fuse(0, 1, 5), x -> x.light(0, -1), x -> x.burns(0))
            .refuses("1 no box yet", BAD, x -> x.in(0), x -> x.let(0, 0))
            .refuses("1 no theft yet", BAD, x -> x.near(0))
            .refuses("1 none sold, no place", NOT, x -> x.enter(0, 1))
            .refuses("1 no lamp to light", NOT, x -> x.best(1), x -> x.best(2))
            .refuses("1 no price yet", NOT, x -> x.inForce(0, 0, 0), x -> x.inForce(2, 199, 199))
            .refuses("1 no price to give", VOID, x -> x.gives(0, 0, 0))
            .refuses("1 no night is closed", VOID, x -> x.night(0, 0), x -> x.foretold(0))
            .refuses("1 an empty tape", -100, x -> x.price(0, 0));
    }

    private static void newObjectGoesOn() {
        story().due("1 a minute without anything", 1, x -> x.minutes(1));
        story().due("1 a night without anything", 0, x -> x.close()).due("1 then night 1", 1, x -> x.count(9));
        story().with(x -> x.place(1, 1), x -> x.lamp(1));
        story().due("1 objects share nothing", 0, x -> x.count(0));
    }

    /** "ROOM (1 .. 999), COVERED or not". */
    private static void roomAndCover() {
        story(x -> x.place(7, 0))
            .bounds("2 ROOM (1 .. 999)", 1, 999, BAD, v -> x -> x.place(v, 0))
            .bounds("2 COVERED or not", 0, 1, BAD, v -> x -> x.place(5, v))
            .refuses("2 neither is as said", BAD, x -> x.place(0, 2));
    }

    /** "PLACES 0 .. 15, as they were made". */
    private static void sixteenPlaces() {
        Story s = story();
        for (int i = 0; i < 16; i++) {
            s.due("2 PLACE " + i, i, x -> x.place(9, 1));
        }
        s.refuses("2 the 17th", FULL, x -> x.place(9, 1), x -> x.place(1, 0), x -> x.place(999, 0));
        s.refuses("2 BAD is named ahead of FULL", BAD, x -> x.place(0, 1), x -> x.place(1000, 1), x -> x.place(9, 2));
        s.due("2 the last one is a place", 0, x -> x.way(15, 15));
    }

    /** "so many minutes (1 .. 60), either way". */
    private static void walkTakesOneToSixty() {
        garden()
            .bounds("3 minutes (0: none, 1 .. 60)", 0, 60, BAD, v -> x -> x.walk(0, 1, v))
            .due("3 the least", 2, x -> x.walk(0, 1, 1))
            .due("3 there", 1, x -> x.way(0, 1))
            .due("3 the most", 1, x -> x.walk(0, 1, 60))
            .due("3 and back", 60, x -> x.way(1, 0));
    }

    /** 3: "(0: there is none): what it did (0: there was none)". */
    private static void walkOfNoMinutes() {
        garden()
            .refuses("3 none where none was", 0, x -> x.walk(0, 3, 0))
            .due("3 none where one was", 2, x -> x.walk(1, 0, 0))
            .due("3 there is none now", 0, x -> x.walk(0, 1, 0))
            .due("3 nor a way", NO_WAY, x -> x.way(0, 1))
            .due("3 one again", 0, x -> x.walk(0, 1, 4))
            .due("3 that stands", 4, x -> x.way(0, 1));
    }

    /** 3: "BAD (also one and the same)". */
    private static void walkBetweenTwoPlaces() {
        garden()
            .refusesOutside("3 a is no place", 0, 3, BAD, v -> x -> x.walk(v, 1, 5))
            .refusesOutside("3 b is no place", 0, 3, BAD, v -> x -> x.walk(1, v, 5))
            .refusesOutside("3 none taken from no place", 0, 3, BAD, v -> x -> x.walk(0, v, 0))
            .refuses("3 one and the same", BAD, x -> x.walk(0, 0, 5), x -> x.walk(3, 3, 1), x -> x.walk(2, 2, 0),
                x -> x.walk(4, 4, 5), x -> x.walk(-1, -1, 5));
    }

    /** "a new one of the same two takes the earlier one's place". */
    private static void walkTakesTheEarliersPlace() {
        garden()
            .due("3 a longer one", 2, x -> x.walk(0, 1, 9))
            .due("3 is all there is", 9, x -> x.way(0, 1))
            .due("3 named the other way round", 9, x -> x.walk(1, 0, 4))
            .due("3 is the same one", 4, x -> x.way(0, 1))
            .due("3 others stay", 3, x -> x.way(1, 2));
    }

    private static void wayOfPlaces() {
        garden()
            .refusesOutside("4 a is no place", 0, 3, BAD, v -> x -> x.way(v, 0))
            .refusesOutside("4 b is no place", 0, 3, BAD, v -> x -> x.way(0, v))
            .refuses("4 one and the same, but no place", BAD, x -> x.way(4, 4), x -> x.way(-1, -1))
            .refuses("4 BAD is named ahead of NO_WAY", BAD, x -> x.way(3, 4), x -> x.way(4, 3));
    }

    /** "the least minutes by WALKS (0 to itself)". */
    private static void wayIsTheLeast() {
        garden()
            .due("4 to itself", 0, x -> x.way(0, 0))
            .due("4 to itself, without a walk", 0, x -> x.way(3, 3))
            .due("4 by two walks", 5, x -> x.way(0, 2))
            .with(x -> x.walk(0, 2, 6))
            .due("4 one more by the direct one", 5, x -> x.way(2, 0))
            .with(x -> x.walk(0, 2, 5))
            .due("4 as many by it", 5, x -> x.way(0, 2))
            .with(x -> x.walk(0, 2, 4))
            .due("4 one less by it", 4, x -> x.way(0, 2))
            .due("4 nothing is longer for it", 2, x -> x.way(0, 1));
        Story row = story().withEach(0, 15, i -> x -> x.place(1, 0)).withEach(1, 15, i -> x -> x.walk(i, i - 1, 60));
        row.due("4 the longest of all", 900, x -> x.way(0, 15)).due("4 back", 900, x -> x.way(15, 0));
        row.with(x -> x.walk(0, 15, 60)).due("4 round the other way", 120, x -> x.way(1, 15));
    }

    /** "or none". */
    private static void wayOrNone() {
        story(x -> x.place(9, 0), x -> x.place(9, 1), x -> x.sell(0, 9), x -> x.enter(0, 1))
            .refuses("4 there is no walk at all", NO_WAY, x -> x.way(0, 1), x -> x.way(1, 0))
            .refuses("8 there is no walk at all", NO_WAY, x -> x.go(0, 1));
        garden()
            .refuses("4 no walk leads there", NO_WAY, x -> x.way(0, 3), x -> x.way(3, 2))
            .with(x -> x.walk(2, 3, 1))
            .due("4 one does", 6, x -> x.way(0, 3))
            .with(x -> x.walk(0, 1, 0))
            .due("4 all beyond it are cut off", NO_WAY, x -> x.way(0, 3))
            .due("4 what is beyond holds together", 4, x -> x.way(1, 3));
    }

    /** 5: "from a MINUTE (that now, or later)". */
    private static void rainFromNow() {
        garden().bounds("5 from 0 on at first", 0, 479, BAD, v -> x -> x.rain(v, 480));
        garden().with(x -> x.minutes(10))
            .bounds("5 from now on", 10, 19, BAD, v -> x -> x.rain(v, 20))
            .refuses("5 wholly past", BAD, x -> x.rain(0, 10), x -> x.rain(8, 9));
        toTheEnd(garden())
            .refuses("5 a minute past", BAD, x -> x.rain(478, 480))
            .due("5 in the last minute", 1, x -> x.rain(479, 480));
    }

    /** 5: "to a later one (at most 480)". */
    private static void rainToALaterOne() {
        garden().with(x -> x.minutes(10))
            .bounds("5 to a later one (at most 480)", 31, 480, BAD, v -> x -> x.rain(30, v))
            .refuses("5 no minute at all", BAD, x -> x.rain(30, 30), x -> x.rain(480, 480))
            .refuses("5 backwards", BAD, x -> x.rain(40, 30))
            .refuses("5 beyond the night", BAD, x -> x.rain(480, 481), x -> x.rain(10, MOST_INT),
                x -> x.rain(LEAST_INT, MOST_INT), x -> x.rain(MOST_INT, LEAST_INT));
    }

    /** "from one to another one, the last one not"; "It RAINS in a MINUTE that is in one." */
    private static void rainWithoutItsLastMinute() {
        Story s = garden().price(0, 0, "r").with(x -> x.enter(0, 1), x -> x.rain(3, 5), x -> x.rain(7, 8));
        int[] wet = {0, 0, 0, 1, 1, 0, 0, 1, 0};
        for (int minute = 0; minute < wet.length; minute++) {
            s.due("5 rain in minute " + minute, wet[minute], x -> x.gives(0, 0, 0)).with(x -> x.minutes(1));
        }
        s.with(x -> x.rain(9, 480)).due("5 from now", 1, x -> x.gives(0, 0, 0));
        s.withEach(1, 7, i -> x -> x.minutes(60)).with(x -> x.minutes(50));
        s.due("5 to the last minute", 479, x -> x.count(10)).due("5 in it, too", 1, x -> x.gives(0, 0, 0));
        s.with(x -> x.close(), x -> x.enter(0, 1)).due("5 not in a new night", 0, x -> x.gives(0, 0, 0));
    }

    /** "at most 20". */
    private static void twentySpans() {
        Story s = garden();
        for (int i = 1; i <= 20; i++) {
            int span = i;
            s.due("5 span " + span, span, x -> x.rain(span % 5, span % 5 + 1));
        }
        s.refuses("5 the 21st", FULL, x -> x.rain(0, 1), x -> x.rain(100, 480));
        s.refuses("5 BAD is named ahead of FULL", BAD, x -> x.rain(5, 5), x -> x.rain(-1, 5), x -> x.rain(5, 481));
        s.with(x -> x.minutes(30)).refuses("5 those that are over count", FULL, x -> x.rain(30, 31));
        s.with(x -> x.close()).due("5 a new night has none", 1, x -> x.rain(0, 1));
    }
}
