/** Promises 13 to 19 at their edges (section 3), a sentence at a time. */
public final class LampEdgeTest extends Edges {
    public static void main(String[] args) {
        oilOfALamp();
        fortyLamps();
        fuseNumbers();
        fuseToItself();
        eightyFuses();
        lightNumbers();
        lightWithoutASecond();
        lightRefused();
        lightIsAsItWasLit();
        burnsNumbers();
        burnsOrNot();
        secondsUp();
        shortestRow();
        darkOnes();
        spentOnTheMinute();
        spentOfTheLit();
        bestNumbers();
        bestNotSoManyLamps();
        bestFewestDark();
        bestLeastLast();
        bestFirst();
        CHECK.finish();
    }

    private static Story hung(int lamps) {
        return story().withEach(1, lamps, i -> x -> x.lamp(100));
    }

    /** "so many minutes (1 .. 480)". */
    private static void oilOfALamp() {
        hung(2).bounds("13 OIL (1 .. 480)", 1, 480, BAD, v -> x -> x.lamp(v));
    }

    /** "LAMPS 0 .. 39, as they were hung". */
    private static void fortyLamps() {
        Story s = story();
        for (int i = 0; i < 40; i++) {
            int lamp = i;
            s.due("13 LAMP " + lamp, lamp, x -> x.lamp(lamp + 1));
        }
        s.refuses("13 the 41st", FULL, x -> x.lamp(1), x -> x.lamp(480));
        s.refuses("13 BAD is named ahead of FULL", BAD, x -> x.lamp(0), x -> x.lamp(481));
        s.due("13 all are lamps", 40, x -> x.count(3));
        s.with(x -> x.close()).refuses("13 they stay", FULL, x -> x.lamp(1));
        s.due("15 the last one burns", 0, x -> x.light(39, -1));
    }

    /** "of a length (1 .. 999)". */
    private static void fuseNumbers() {
        hung(3)
            .bounds("14 length (1 .. 999)", 1, 999, BAD, v -> x -> x.fuse(0, 1, v))
            .refusesOutside("14 a is no lamp", 0, 2, BAD, v -> x -> x.fuse(v, 0, 5))
            .refusesOutside("14 b is no lamp", 0, 2, BAD, v -> x -> x.fuse(0, v, 5))
            .due("14 the first", 1, x -> x.fuse(0, 1, 1))
            .due("14 of the same two", 2, x -> x.fuse(1, 0, 999))
            .due("14 the last lamp", 3, x -> x.fuse(2, 0, 5));
    }

    /** "(or a LAMP and itself: refused)". */
    private static void fuseToItself() {
        hung(2).refuses("14 a lamp and itself", BAD, x -> x.fuse(0, 0, 5), x -> x.fuse(1, 1, 1), x -> x.fuse(2, 2, 5));
    }

    /** "at most 80". */
    private static void eightyFuses() {
        Story s = hung(4);
        for (int i = 1; i <= 80; i++) {
            int fuse = i;
            s.due("14 FUSE " + fuse, fuse, x -> x.fuse(fuse % 3, 3, fuse + 100));
        }
        s.refuses("14 the 81st", FULL, x -> x.fuse(0, 1, 1), x -> x.fuse(0, 3, 1));
        s.refuses("14 BAD is named ahead of FULL", BAD, x -> x.fuse(0, 0, 1), x -> x.fuse(0, 4, 1), x -> x.fuse(0, 1, 0),
            x -> x.fuse(0, 1, 1000));
        s.due("14 all are fuses", 80, x -> x.count(4));
        s.with(x -> x.close()).refuses("14 they stay", FULL, x -> x.fuse(0, 1, 1));
    }

    private static void lightNumbers() {
        hung(3).with(x -> x.fuse(0, 1, 50))
            .bounds("15 a is a lamp", 0, 2, BAD, v -> x -> x.light(v, 0))
            .bounds("15 a is a lamp, without a second", 0, 2, BAD, v -> x -> x.light(v, -1))
            .bounds("15 b is a lamp, or -1", -1, 2, BAD, v -> x -> x.light(0, v))
            .refuses("15 -1 is no first", BAD, x -> x.light(-1, -1));
    }

    /** 15: "(-1: no second; it may be the same)". */
    private static void lightWithoutASecond() {
        hung(3).with(x -> x.fuse(0, 1, 50))
            .due("15 no second", 5, x -> x.light(0, -1))
            .due("17 one is dark", 1, x -> x.dark())
            .due("15 the same", 5, x -> x.light(1, 1))
            .due("17 one is dark", 1, x -> x.dark())
            .due("15 two", 5, x -> x.light(0, 2))
            .due("17 none is dark", 0, x -> x.dark())
            .due("15 two that are joined", 0, x -> x.light(1, 0))
            .due("16 each at once", 0, x -> x.burns(0))
            .due("15 a lamp alone", 0, x -> x.light(2, -1));
    }

    /** 15: "(An earlier light of this NIGHT is no more.)"; a refused one leaves it. */
    private static void lightRefused() {
        hung(3).with(x -> x.fuse(0, 1, 50), x -> x.minutes(3), x -> x.light(0, -1), x -> x.minutes(2))
            .refuses("15 refused", BAD, x -> x.light(3, -1), x -> x.light(0, 3), x -> x.light(2, -2))
            .with(x -> x.light(2, -1))
            .due("16 it burnt by the earlier one", NOT, x -> x.burns(0))
            .due("16 by this one", 0, x -> x.burns(2))
            .due("17 the earlier ones are dark", 2, x -> x.dark());
    }

    /** What is hung and joined behind the light is dark by it. */
    private static void lightIsAsItWasLit() {
        hung(2).with(x -> x.light(0, -1), x -> x.fuse(0, 1, 5), x -> x.lamp(3), x -> x.fuse(0, 2, 5))
            .due("16 joined later", NOT, x -> x.burns(1))
            .due("16 hung later", NOT, x -> x.burns(2))
            .due("17 both", 2, x -> x.dark())
            .due("15 lit again", 1, x -> x.light(0, -1))
            .due("17 none", 0, x -> x.dark());
    }

    private static void burnsNumbers() {
        hung(3).with(x -> x.light(0, 2))
            .bounds("16 a lamp", 0, 2, BAD, v -> x -> v == 1 ? 0 : x.burns(v))
            .with(x -> x.close())
            .refusesOutside("16 BAD, though there was no light", 0, 2, BAD, v -> x -> x.burns(v));
    }

    /** 16: "by the latest light() of this NIGHT; NOT: never, or there was none". */
    private static void burnsOrNot() {
        hung(3).with(x -> x.fuse(0, 1, 999))
            .refuses("16 there was none", NOT, x -> x.burns(0), x -> x.burns(2))
            .with(x -> x.light(0, -1))
            .due("16 where it was lit", 0, x -> x.burns(0))
            .due("16 where its fuse leads", 100, x -> x.burns(1))
            .refuses("16 never", NOT, x -> x.burns(2))
            .with(x -> x.close())
            .refuses("16 none in this night", NOT, x -> x.burns(0), x -> x.burns(1));
    }

    /** "a second for each 10 of the shortest row of FUSES ..(length / 10, up, of the whole row)". */
    private static void secondsUp() {
        int[] lengths = {1, 9, 10, 11, 19, 20, 21, 99, 100, 101, 999};
        int[] seconds = {1, 1, 1, 2, 2, 2, 3, 10, 10, 11, 100};
        for (int i = 0; i < lengths.length; i++) {
            int length = lengths[i];
            hung(2).with(x -> x.fuse(0, 1, length))
                .due("15 a length of " + length, seconds[i], x -> x.light(0, -1))
                .due("16 a length of " + length, seconds[i], x -> x.burns(1));
        }
        Story row = hung(12).withEach(1, 11, i -> x -> x.fuse(i - 1, i, 1)).with(x -> x.light(0, -1));
        row.due("16 a row of 10 in ten fuses", 1, x -> x.burns(10));
        row.due("16 a row of 11 in eleven", 2, x -> x.burns(11));
        Story longest = hung(40).withEach(1, 39, i -> x -> x.fuse(i - 1, i, 999));
        longest.due("15 the longest row: 38961", 3897, x -> x.light(0, -1));
    }

    /** "the shortest row of FUSES from where it was lit". */
    private static void shortestRow() {
        hung(4).with(x -> x.fuse(0, 1, 30), x -> x.fuse(1, 2, 30), x -> x.fuse(0, 2, 61))
            .due("15 by two fuses", 6, x -> x.light(0, -1))
            .with(x -> x.fuse(2, 0, 50))
            .due("15 a shorter one of the same two", 5, x -> x.light(0, -1))
            .with(x -> x.fuse(0, 2, 900))
            .due("15 a longer one changes nothing", 5, x -> x.light(0, -1))
            .due("15 either way", 5, x -> x.light(2, -1))
            .with(x -> x.fuse(3, 2, 10))
            .due("16 of two lighters the nearer one", 3, x -> x.light(0, 3))
            .due("16 its own", 1, x -> x.burns(2))
            .due("16 the other's", 3, x -> x.burns(1));
    }

    /** 17: "How many LAMPS are DARK by it (all, if there was none)." */
    private static void darkOnes() {
        story().due("17 no lamps", 0, x -> x.dark());
        hung(40)
            .due("17 there was none: all", 40, x -> x.dark())
            .with(x -> x.light(0, 39))
            .due("17 all but two", 38, x -> x.dark())
            .with(x -> x.close())
            .due("17 none in this night: all", 40, x -> x.dark());
    }

    /** 18: "(lit OIL minutes ago or longer)". */
    private static void spentOnTheMinute() {
        story(x -> x.lamp(1), x -> x.lamp(7), x -> x.fuse(0, 1, 999), x -> x.minutes(5), x -> x.light(0, -1))
            .due("18 lit now", 0, x -> x.spent())
            .with(x -> x.minutes(1))
            .due("18 one minute ago", 1, x -> x.spent())
            .with(x -> x.minutes(5))
            .due("18 six minutes ago", 1, x -> x.spent())
            .with(x -> x.minutes(1))
            .due("18 seven minutes ago", 2, x -> x.spent())
            .with(x -> x.minutes(60))
            .due("18 longer ago", 2, x -> x.spent())
            .with(x -> x.light(1, -1))
            .due("18 lit anew", 0, x -> x.spent());
        Story s = story(x -> x.lamp(478), x -> x.lamp(479), x -> x.lamp(480), x -> x.fuse(0, 1, 9), x -> x.fuse(1, 2, 9));
        s.with(x -> x.light(0, -1)).withEach(1, 7, i -> x -> x.minutes(60)).with(x -> x.minutes(58));
        s.due("18 478 minutes ago", 1, x -> x.spent()).with(x -> x.minutes(1));
        s.due("18 479 minutes ago: 480 are not over in a night", 2, x -> x.spent());
    }

    /** "how many LAMPS that were lit (by the latest light(), in a MINUTE of this NIGHT)". */
    private static void spentOfTheLit() {
        story(x -> x.lamp(1), x -> x.lamp(1), x -> x.lamp(2), x -> x.minutes(9))
            .due("18 there was none", 0, x -> x.spent())
            .with(x -> x.light(0, -1), x -> x.minutes(2))
            .due("18 dark ones are not out", 1, x -> x.spent())
            .with(x -> x.lamp(1))
            .due("18 nor is one that was hung later", 1, x -> x.spent())
            .with(x -> x.light(1, 2))
            .due("18 the latest light only", 0, x -> x.spent())
            .with(x -> x.minutes(1))
            .due("18 by it", 1, x -> x.spent())
            .with(x -> x.close(), x -> x.minutes(9))
            .due("18 none in this night", 0, x -> x.spent());
    }

    /** 19: "BEST for one or two lighters". */
    private static void bestNumbers() {
        hung(3).with(x -> x.light(0, -1)).bounds("19 one or two lighters", 1, 2, BAD, v -> x -> x.best(v));
        story().refuses("19 BAD is named ahead of NOT", BAD, x -> x.best(0), x -> x.best(3));
    }

    /** 19: "NOT: there are not so many LAMPS"; "(99: none)". */
    private static void bestNotSoManyLamps() {
        story()
            .refuses("19 no lamp", NOT, x -> x.best(1), x -> x.best(2))
            .with(x -> x.lamp(1))
            .due("19 one lamp, one lighter", 99, x -> x.best(1))
            .refuses("19 one lamp, two lighters", NOT, x -> x.best(2))
            .with(x -> x.lamp(1))
            .due("19 two lamps, two lighters", 1, x -> x.best(2));
        hung(40).with(x -> x.fuse(39, 38, 5))
            .due("19 the last pair", 3899, x -> x.best(1))
            .with(x -> x.fuse(37, 36, 5))
            .due("19 two pairs", 3638, x -> x.best(2));
    }

    /** "that with the fewest DARK". */
    private static void bestFewestDark() {
        hung(5).with(x -> x.fuse(0, 1, 1), x -> x.fuse(2, 3, 999), x -> x.fuse(3, 4, 999))
            .due("19 two dark and 100 seconds, not three dark and one", 399, x -> x.best(1))
            .due("19 none dark", 3, x -> x.best(2));
    }

    /** "of these the least LAST". */
    private static void bestLeastLast() {
        hung(3).with(x -> x.fuse(0, 1, 20), x -> x.fuse(1, 2, 21))
            .due("19 3 seconds from the middle", 199, x -> x.best(1))
            .due("19 2 seconds by the ends", 2, x -> x.best(2));
        hung(3).with(x -> x.fuse(0, 1, 11), x -> x.fuse(1, 2, 19), x -> x.fuse(0, 2, 15))
            .due("19 seconds are compared, not lengths", 99, x -> x.best(1));
    }

    /** "of these the first". */
    private static void bestFirst() {
        hung(4)
            .due("19 all alike: the first", 99, x -> x.best(1))
            .due("19 all pairs alike: the first, the lesser ahead", 1, x -> x.best(2))
            .with(x -> x.fuse(3, 2, 10), x -> x.fuse(2, 1, 10), x -> x.fuse(1, 0, 10))
            .due("19 1 and 2 are alike", 199, x -> x.best(1))
            .due("19 of the pairs that take one second", 2, x -> x.best(2));
        hung(3).with(x -> x.fuse(0, 1, 10), x -> x.fuse(0, 2, 10))
            .due("19 two lighters are two, though one would do as well", 1, x -> x.best(2));
        hung(4).with(x -> x.fuse(3, 2, 10))
            .due("19 2 and 3 are alike", 299, x -> x.best(1))
            .due("19 pairs with 0", 2, x -> x.best(2));
    }
}
