import java.util.Set;

/** Promises 6 to 12 at their edges, and what a minute brings (section 2), a sentence at a time. */
public final class PartyEdgeTest extends Edges {
    public static void main(String[] args) {
        sellNumbers();
        sellHowManyWereNot();
        enterNumbers();
        enterNot();
        enterForged();
        hundredParties();
        enterComesToTheGate();
        goNumbers();
        goNot();
        goNoWay();
        goArrivesOnTheMinute();
        goByTheWayAsItIsNow();
        leaveOnlyFromTheGate();
        leaveIsOut();
        partyNumbers();
        partyTells();
        headsOfAPlace();
        minutesNumbers();
        minutesToTheLast();
        minutesAllOrNone();
        rainAtItsFirstMinute();
        rainNotInMinuteZero();
        rainAndBoxes();
        rainToTheNearest();
        rainWithoutShelter();
        rainBehindArrivals();
        crushAboveRoom();
        crushOfEachMinute();
        CHECK.finish();
    }

    /** "TICKETS have numbers 0 .. 299". */
    private static void sellNumbers() {
        story(x -> x.sell(5, 9))
            .bounds("6 a is 0 .. 299", 0, 299, BAD, v -> x -> x.sell(v, 299))
            .bounds("6 b is 0 .. 299", 0, 299, BAD, v -> x -> x.sell(0, v))
            .refuses("6 backwards", BAD, x -> x.sell(1, 0), x -> x.sell(299, 0), x -> x.sell(8, 7))
            .refuses("6 both outside", BAD, x -> x.sell(-1, 300), x -> x.sell(LEAST_INT, MOST_INT),
                x -> x.sell(300, 300), x -> x.sell(-1, -1));
    }

    /** 6: "from a to b (inclusive) are SOLD: how many were not". */
    private static void sellHowManyWereNot() {
        story()
            .due("6 one", 1, x -> x.sell(0, 0))
            .due("6 none is sold twice", 0, x -> x.sell(0, 0))
            .due("6 both ends", 3, x -> x.sell(297, 299))
            .due("6 an end that was sold", 1, x -> x.sell(296, 297))
            .due("6 the others", 295, x -> x.sell(0, 299))
            .due("6 all are sold", 0, x -> x.sell(0, 299))
            .with(x -> x.close())
            .due("6 and stay so", 0, x -> x.sell(0, 299));
    }

    /** 7: "BAD": a number is not as said, "0 .. 299" and "HEADS (1 .. 20)". */
    private static void enterNumbers() {
        garden()
            .bounds("7 TICKET 0 .. 299", 0, 299, BAD, v -> x -> x.enter(v, 1))
            .bounds("7 HEADS (1 .. 20)", 1, 20, BAD, v -> x -> x.enter(0, v));
    }

    /** 7: "NOT: the TICKET is not SOLD, or there is no PLACE". */
    private static void enterNot() {
        story(x -> x.sell(10, 20))
            .refuses("7 sold, but no place", NOT, x -> x.enter(10, 1))
            .refuses("7 BAD is named ahead of NOT", BAD, x -> x.enter(300, 1), x -> x.enter(10, 0), x -> x.enter(9, 21))
            .with(x -> x.place(9, 0))
            .refuses("7 not sold", NOT, x -> x.enter(9, 1), x -> x.enter(21, 20), x -> x.enter(0, 1), x -> x.enter(299, 1))
            .refuses("7 BAD is named ahead of NOT", BAD, x -> x.enter(9, 0), x -> x.enter(-1, 1))
            .due("7 the first that is sold", 0, x -> x.enter(10, 1))
            .due("7 the last that is sold", 1, x -> x.enter(20, 1))
            .with(x -> x.sell(9, 9))
            .due("7 sold since", 2, x -> x.enter(9, 1));
    }

    /** 7: "FORGED (it is counted)": "shown while a PARTY that came by the same number is in". */
    private static void enterForged() {
        Set<String> counted = Set.of("count(12)");
        garden().price(0, 0, "p*10").with(x -> x.box(0, 9), x -> x.enter(7, 3))
            .leavesAllBut(counted, "7 one is at the gate", FORGED, x -> x.enter(7, 3))
            .refuses("7 BAD is named ahead of FORGED", BAD, x -> x.enter(7, 0), x -> x.enter(7, 21))
            .due("7 FORGED", FORGED, x -> x.enter(7, 20))
            .due("7 it is counted", 1, x -> x.count(12))
            .due("7 a number beside it", 1, x -> x.enter(8, 1))
            .with(x -> x.let(0, 0))
            .due("7 in a box it is in", FORGED, x -> x.enter(7, 1))
            .with(x -> x.go(0, 1))
            .leavesAllBut(counted, "7 while it walks it is in", FORGED, x -> x.enter(7, 3))
            .with(x -> x.leave(1))
            .due("7 out, so it may come again", 2, x -> x.enter(8, 2))
            .due("7 and is in then", FORGED, x -> x.enter(8, 2))
            .due("7 counted", 3, x -> x.count(12))
            .with(x -> x.close())
            .due("7 another night", 0, x -> x.enter(7, 3))
            .due("7 FORGED in all", 3, x -> x.count(12));
    }

    /** "PARTIES 0 .. 99 of a NIGHT, as they came". */
    private static void hundredParties() {
        Story s = garden();
        for (int i = 0; i < 100; i++) {
            int ticket = 200 - i;
            s.due("7 PARTY " + i, i, x -> x.enter(ticket, 1));
        }
        s.refuses("7 the 101st", FULL, x -> x.enter(201, 1), x -> x.enter(0, 20));
        s.refuses("7 BAD is named ahead of FULL", BAD, x -> x.enter(300, 1), x -> x.enter(201, 0));
        s.leavesAllBut(Set.of("count(12)"), "7 FORGED is named ahead of FULL", FORGED, x -> x.enter(101, 1));
        s.with(x -> x.leave(0));
        s.refuses("7 those that are out count", FULL, x -> x.enter(200, 1));
        s.due("10 the last one", 101, x -> x.party(99, 1));
        s.with(x -> x.close()).due("7 a new night begins at 0", 0, x -> x.enter(200, 1));
        story(x -> x.place(9, 0), x -> x.sell(0, 99)).withEach(0, 99, i -> x -> x.enter(i, 1))
            .refuses("7 NOT is named ahead of FULL", NOT, x -> x.enter(100, 1));
    }

    /** 7: "A PARTY comes to THE GATE"; "PLACE 0 is THE GATE". */
    private static void enterComesToTheGate() {
        garden().price(0, 0, "t+9").with(x -> x.minutes(5), x -> x.enter(3, 20))
            .due("7 at", 0, x -> x.party(0, 2))
            .due("7 the gate", 0, x -> x.party(0, 3))
            .due("7 now", 5, x -> x.party(0, 9))
            .due("7 t is 0 when it comes", 9, x -> x.party(0, 6))
            .due("7 its heads are there", 20, x -> x.heads(0));
    }

    private static void goNumbers() {
        garden().with(x -> x.enter(0, 1), x -> x.enter(1, 1))
            .bounds("8 a party of this night", 0, 1, BAD, v -> x -> x.go(v, 1))
            .refusesOutside("8 a place", 0, 3, BAD, v -> x -> x.go(0, v))
            .refuses("8 neither", BAD, x -> x.go(2, 4), x -> x.go(-1, -1))
            .refuses("8 BAD is named ahead of NOT", BAD, x -> x.go(2, 0))
            .with(x -> x.go(0, 1))
            .refuses("8 BAD is named ahead of NOT, walking", BAD, x -> x.go(0, 4), x -> x.go(0, -1))
            .with(x -> x.leave(1))
            .refuses("8 BAD is named ahead of NOT, out", BAD, x -> x.go(1, 4))
            .with(x -> x.close())
            .refuses("8 parties of another night", BAD, x -> x.go(0, 1));
    }

    /** 8: "NOT: it is not AT one, or AT that". */
    private static void goNot() {
        garden().with(x -> x.box(0, 9), x -> x.enter(0, 1), x -> x.enter(1, 1), x -> x.let(0, 0), x -> x.order(0, 5))
            .refuses("8 AT that", NOT, x -> x.go(0, 0), x -> x.go(1, 0))
            .with(x -> x.go(1, 1))
            .refuses("8 it walks", NOT, x -> x.go(1, 0), x -> x.go(1, 1), x -> x.go(1, 2))
            .refuses("8 NOT is named ahead of NO_WAY", NOT, x -> x.go(1, 3))
            .with(x -> x.minutes(2))
            .refuses("8 AT that, now", NOT, x -> x.go(1, 1))
            .with(x -> x.leave(0))
            .refuses("8 out", NOT, x -> x.go(0, 1), x -> x.go(0, 0), x -> x.go(0, 3));
    }

    /** 8: "NO_WAY". */
    private static void goNoWay() {
        garden().with(x -> x.box(0, 9), x -> x.enter(0, 1), x -> x.let(0, 0), x -> x.order(0, 5), x -> x.order(0, 6))
            .refuses("8 no way: it stays in its box, with its orders", NO_WAY, x -> x.go(0, 3))
            .with(x -> x.walk(2, 3, 60))
            .due("8 there is one", 65, x -> x.go(0, 3))
            .due("8 the box is free", NOT, x -> x.in(0))
            .due("8 its orders went away", 0, x -> x.count(6));
    }

    /** "it is AT that when MINUTE is as many more". */
    private static void goArrivesOnTheMinute() {
        garden().with(x -> x.minutes(7), x -> x.enter(0, 4))
            .due("8 minutes", 5, x -> x.go(0, 2))
            .due("10 the minute when it is there", 12, x -> x.party(0, 4))
            .with(x -> x.minutes(4))
            .due("8 a minute ahead it walks", 1, x -> x.party(0, 2))
            .due("8 and is nowhere", 0, x -> x.heads(2))
            .with(x -> x.minutes(1))
            .due("8 on the minute it is there", 0, x -> x.party(0, 2))
            .due("8 with its heads", 4, x -> x.heads(2));
        toTheEnd(garden().with(x -> x.enter(0, 1)))
            .due("8 in the last minute", 5, x -> x.go(0, 2))
            .due("10 beyond the night", 484, x -> x.party(0, 4))
            .refuses("12 never there", BAD, x -> x.minutes(1));
        toTheEnd(garden().with(x -> x.enter(0, 1), x -> x.walk(0, 3, 60), x -> x.minutes(4)).with(x -> x.go(0, 3)))
            .due("8 it came long ago", 0, x -> x.party(0, 2));
    }

    /** "by the WAY as it is now". */
    private static void goByTheWayAsItIsNow() {
        garden().with(x -> x.enter(0, 1), x -> x.enter(1, 1), x -> x.go(0, 2), x -> x.walk(0, 1, 1))
            .due("8 who walks is not sooner there", 5, x -> x.party(0, 4))
            .due("8 who goes now is", 4, x -> x.go(1, 2))
            .with(x -> x.walk(0, 1, 0), x -> x.minutes(5))
            .due("8 a walk that is no more stops nobody", 2, x -> x.party(0, 3))
            .due("8 they are there", 2, x -> x.heads(2))
            .due("8 and can't go back", NO_WAY, x -> x.go(0, 0));
    }

    /** 9: "A PARTY that is AT THE GATE"; "BAD, NOT". */
    private static void leaveOnlyFromTheGate() {
        garden().price(2, 0, "9").with(x -> x.enter(0, 1), x -> x.enter(1, 1))
            .refusesOutside("9 no such party", 0, 1, BAD, v -> x -> x.leave(v))
            .with(x -> x.go(0, 1))
            .refuses("9 it walks from the gate", NOT, x -> x.leave(0))
            .with(x -> x.minutes(2))
            .refuses("9 it is elsewhere", NOT, x -> x.leave(0))
            .with(x -> x.go(0, 0))
            .refuses("9 it walks to the gate", NOT, x -> x.leave(0))
            .with(x -> x.minutes(1))
            .refuses("9 a minute too early", NOT, x -> x.leave(0))
            .with(x -> x.minutes(1))
            .due("9 at the gate", 9, x -> x.leave(0))
            .refuses("9 it is out", NOT, x -> x.leave(0))
            .with(x -> x.close())
            .refuses("9 no party in a new night", BAD, x -> x.leave(0), x -> x.leave(1));
    }

    /** "it is FREE when the PARTY GOES, is OUT, or leaves it". */
    private static void leaveIsOut() {
        garden().with(x -> x.box(0, 9), x -> x.enter(0, 3), x -> x.let(0, 0), x -> x.order(0, 2))
            .due("9 without a REFUND 0", 0, x -> x.leave(0))
            .due("9 its box is free", NOT, x -> x.in(0))
            .due("9 its orders went away", 0, x -> x.count(6))
            .due("9 none are in", 0, x -> x.count(2))
            .due("9 it stays a party of this night", 1, x -> x.count(1))
            .due("10 OUT", 2, x -> x.party(0, 2))
            .due("10 OUT: -1", -1, x -> x.party(0, 3))
            .due("10 no box", -1, x -> x.party(0, 5));
    }

    private static void partyNumbers() {
        garden().with(x -> x.enter(0, 1), x -> x.enter(1, 2))
            .bounds("10 a party of this night", 0, 1, BAD, v -> x -> x.party(v, 0))
            .refusesOutside("10 what is 0 .. 9", 0, 9, BAD, v -> x -> x.party(0, v))
            .due("10 the first of them", 1, x -> x.party(0, 0))
            .due("10 the last of them", 0, x -> x.party(0, 9))
            .with(x -> x.close())
            .refuses("10 none in a new night", BAD, x -> x.party(0, 0), x -> x.party(1, 9));
    }

    /** 10: each of the ten, in each state. */
    private static void partyTells() {
        Story s = garden().price(0, 0, "p*5").price(1, 0, "s").price(2, 0, "p")
            .with(x -> x.box(0, 4), x -> x.minutes(2), x -> x.enter(9, 4));
        tells(s, "come", 4, 9, 0, 0, -1, -1, 20, 0, 0, 2);
        s.with(x -> x.let(0, 0), x -> x.ham(30), x -> x.order(0, 3), x -> x.minutes(1));
        tells(s, "in a box", 4, 9, 0, 0, -1, 0, 23, 0, 3, 2);
        s.with(x -> x.go(0, 1));
        tells(s, "walking", 4, 9, 1, 1, 5, -1, 23, 0, 3, 2);
        s.with(x -> x.minutes(2));
        tells(s, "there", 4, 9, 0, 1, -1, -1, 23, 0, 3, 2);
        s.with(x -> x.go(0, 0), x -> x.minutes(2), x -> x.leave(0));
        tells(s, "out", 4, 9, 2, -1, -1, -1, 23, 4, 3, 2);
        s.with(x -> x.close(), x -> x.enter(10, 1));
        tells(s, "anew", 1, 10, 0, 0, -1, -1, 5, 0, 0, 0);
    }

    private static void tells(Story s, String when, int... want) {
        for (int i = 0; i < want.length; i++) {
            int what = i;
            s.due("10 " + what + ", " + when, want[what], x -> x.party(0, what));
        }
    }

    private static void headsOfAPlace() {
        garden().with(x -> x.enter(0, 20), x -> x.box(0, 20))
            .bounds("11 a place", 0, 3, BAD, v -> x -> x.heads(v))
            .due("11 AT it", 20, x -> x.heads(0))
            .due("11 nobody", 0, x -> x.heads(3))
            .with(x -> x.let(0, 0))
            .due("11 in a box there", 20, x -> x.heads(0))
            .with(x -> x.go(0, 1))
            .due("11 walking from", 0, x -> x.heads(0))
            .due("11 walking to", 0, x -> x.heads(1));
    }

    /** 12: "n (1 .. 60)". */
    private static void minutesNumbers() {
        garden().with(x -> x.enter(0, 1), x -> x.go(0, 2), x -> x.rain(1, 9), x -> x.minutes(3))
            .bounds("12 n (1 .. 60)", 1, 60, BAD, v -> x -> x.minutes(v))
            .due("12 one", 4, x -> x.minutes(1))
            .due("12 sixty", 64, x -> x.minutes(60));
    }

    /** 12: "BAD (also beyond 479)". */
    private static void minutesToTheLast() {
        story().withEach(1, 7, i -> x -> x.minutes(60))
            .refuses("12 60 would be 480", BAD, x -> x.minutes(60))
            .bounds("12 59 are left", 1, 59, BAD, v -> x -> x.minutes(v))
            .due("12 the last minute", 479, x -> x.minutes(59))
            .refuses("12 none is left", BAD, x -> x.minutes(1), x -> x.minutes(60), x -> x.minutes(MOST_INT))
            .with(x -> x.close())
            .due("12 a new night has all", 60, x -> x.minutes(60));
    }

    /** A refused count of minutes lets none go by, not even those that are left. */
    private static void minutesAllOrNone() {
        toTheEnd(garden().with(x -> x.place(2, 0))).with(x -> x.close())
            .withEach(1, 7, i -> x -> x.minutes(60)).with(x -> x.minutes(57))
            .with(x -> x.enter(0, 5), x -> x.go(0, 1), x -> x.rain(478, 480))
            .refuses("12 two are left, three do not go by", BAD, x -> x.minutes(3));
    }

    private static Story sheltered() {
        return story(x -> x.place(50, 0), x -> x.place(50, 1), x -> x.walk(0, 1, 1), x -> x.sell(0, 299));
    }

    /** "if it RAINS now and did not in the MINUTE ahead". */
    private static void rainAtItsFirstMinute() {
        sheltered().with(x -> x.enter(0, 1), x -> x.rain(2, 5), x -> x.minutes(1))
            .due("12 dry", 0, x -> x.party(0, 2))
            .with(x -> x.minutes(1))
            .due("12 the first wet minute", 1, x -> x.party(0, 2))
            .due("12 from this minute on", 3, x -> x.party(0, 4))
            .with(x -> x.enter(1, 1), x -> x.minutes(2))
            .due("12 not in the second or the third one", 0, x -> x.party(1, 3))
            .with(x -> x.rain(5, 6), x -> x.minutes(1))
            .due("12 a span that begins where one ends", 0, x -> x.party(1, 3))
            .with(x -> x.rain(7, 8), x -> x.minutes(1))
            .due("12 dry again", 0, x -> x.party(1, 2))
            .with(x -> x.minutes(1))
            .due("12 wet again", 1, x -> x.party(1, 2));
        sheltered().with(x -> x.minutes(4), x -> x.enter(0, 1), x -> x.rain(4, 6), x -> x.minutes(1))
            .due("12 told for the minute that is now: it rained in the minute ahead", 0, x -> x.party(0, 2));
        toTheEnd(sheltered().with(x -> x.enter(0, 1), x -> x.rain(479, 480)))
            .due("12 in the last minute", 1, x -> x.party(0, 2))
            .due("12 it walks on", 480, x -> x.party(0, 4));
    }

    /** "(not in MINUTE 0)". */
    private static void rainNotInMinuteZero() {
        sheltered().with(x -> x.enter(0, 1), x -> x.rain(0, 2))
            .due("12 told in minute 0", 0, x -> x.party(0, 2))
            .with(x -> x.minutes(1))
            .due("12 it rained in minute 0", 0, x -> x.party(0, 2));
        sheltered().with(x -> x.enter(0, 1), x -> x.rain(1, 2), x -> x.minutes(1))
            .due("12 minute 1 is the first that can", 1, x -> x.party(0, 2));
        toTheEnd(sheltered()).with(x -> x.rain(479, 480), x -> x.close(), x -> x.enter(0, 1), x -> x.rain(1, 2))
            .with(x -> x.minutes(1))
            .due("12 rain of the night ahead is no rain of this one", 1, x -> x.party(0, 2));
    }

    /** "AT a PLACE that is not COVERED, and in no BOX"; "In a BOX rain moves nobody." */
    private static void rainAndBoxes() {
        sheltered().with(x -> x.box(0, 9), x -> x.enter(0, 1), x -> x.enter(1, 1), x -> x.enter(2, 1))
            .with(x -> x.let(0, 0), x -> x.order(0, 4), x -> x.go(2, 1), x -> x.minutes(1))
            .with(x -> x.rain(2, 3), x -> x.minutes(1))
            .due("12 in a box", 0, x -> x.party(0, 3))
            .due("12 it keeps its box", 0, x -> x.in(0))
            .due("12 in no box", 1, x -> x.party(1, 3))
            .due("12 under cover", 0, x -> x.party(2, 2))
            .with(x -> x.rise(0), x -> x.rain(4, 5), x -> x.minutes(2))
            .due("12 in none any more", 1, x -> x.party(0, 2));
    }

    /** "the nearest COVERED one, but THE GATE (the least WAY, of several the least PLACE ..". */
    private static void rainToTheNearest() {
        Story s = story(x -> x.place(50, 1), x -> x.place(50, 0), x -> x.place(50, 1), x -> x.place(50, 1),
            x -> x.walk(0, 1, 1), x -> x.walk(1, 2, 4), x -> x.walk(1, 3, 4), x -> x.sell(0, 299));
        s.with(x -> x.enter(0, 1), x -> x.enter(1, 1), x -> x.go(1, 1), x -> x.minutes(1));
        s.with(x -> x.rain(2, 3), x -> x.minutes(1));
        s.due("12 a covered gate keeps who is there", 0, x -> x.party(0, 2));
        s.due("12 not to the gate, though nearer; of two the lesser", 2, x -> x.party(1, 3));
        s.due("12 by its way", 6, x -> x.party(1, 4));
        s.with(x -> x.minutes(4), x -> x.go(1, 1), x -> x.minutes(4), x -> x.walk(1, 3, 3));
        s.with(x -> x.rain(11, 12), x -> x.minutes(1));
        s.due("12 one minute nearer", 3, x -> x.party(1, 3));
        garden().with(x -> x.enter(0, 1), x -> x.rain(1, 2), x -> x.minutes(1))
            .due("12 from the gate through an open place", 2, x -> x.party(0, 3))
            .due("12 by two walks", 6, x -> x.party(0, 4));
        Story all = story().withEach(0, 14, i -> x -> x.place(9, 0)).with(x -> x.place(9, 1), x -> x.sell(0, 9));
        all.withEach(1, 15, i -> x -> x.walk(0, i, i)).with(x -> x.enter(0, 1), x -> x.rain(1, 2), x -> x.minutes(1));
        all.due("12 the last place there can be", 15, x -> x.party(0, 3));
    }

    /** ".. none: it stays)". */
    private static void rainWithoutShelter() {
        story(x -> x.place(9, 1), x -> x.place(9, 0), x -> x.place(9, 1), x -> x.walk(0, 1, 1), x -> x.sell(0, 9))
            .with(x -> x.enter(0, 1), x -> x.go(0, 1), x -> x.minutes(1), x -> x.rain(2, 3), x -> x.minutes(1))
            .due("12 no way but to the gate", 0, x -> x.party(0, 2))
            .due("12 it stays", 1, x -> x.party(0, 3));
        story(x -> x.place(9, 0), x -> x.sell(0, 9), x -> x.enter(0, 1), x -> x.rain(1, 2), x -> x.minutes(1))
            .due("12 nothing is covered", 0, x -> x.party(0, 3));
        sheltered().with(x -> x.enter(0, 1), x -> x.rain(1, 2), x -> x.walk(0, 1, 0), x -> x.minutes(1))
            .due("12 its walk is no more", 0, x -> x.party(0, 3));
    }

    /** "PARTIES that come to their PLACES by that MINUTE are there, by numbers; then, if it RAINS ..". */
    private static void rainBehindArrivals() {
        garden().with(x -> x.enter(0, 1), x -> x.enter(1, 1), x -> x.go(0, 1), x -> x.minutes(1), x -> x.go(1, 1))
            .with(x -> x.rain(2, 3), x -> x.minutes(1))
            .due("12 it came in this minute, and goes on in it", 2, x -> x.party(0, 3))
            .due("12 from where it came", 5, x -> x.party(0, 4))
            .due("12 who walks is not sent", 1, x -> x.party(1, 3))
            .with(x -> x.minutes(1))
            .due("12 and is there by its time", 1, x -> x.heads(1));
    }

    /** "for each PLACE its HEADS above ROOM". */
    private static void crushAboveRoom() {
        story(x -> x.place(20, 0), x -> x.place(999, 0), x -> x.sell(0, 299), x -> x.enter(0, 20), x -> x.minutes(1))
            .due("37 as many heads as room", 0, x -> x.count(13))
            .with(x -> x.enter(1, 1), x -> x.minutes(1))
            .due("37 one above", 1, x -> x.count(13))
            .with(x -> x.minutes(2))
            .due("37 added up", 3, x -> x.count(13));
        Story s = story(x -> x.place(1, 0), x -> x.place(999, 0), x -> x.walk(0, 1, 1), x -> x.sell(0, 299));
        s.withEach(0, 49, i -> x -> x.enter(i, 20)).withEach(0, 49, i -> x -> x.go(i, 1)).with(x -> x.minutes(1));
        s.due("37 1000 heads in the largest room", 1, x -> x.count(13));
        s.with(x -> x.go(0, 0), x -> x.minutes(1)).due("37 980 heads, and one that walked", 20, x -> x.count(13));
    }

    /** "when each MINUTE (1 and later) has gone by ..; those in BOXES there, too; WALKING ones count nowhere". */
    private static void crushOfEachMinute() {
        story(x -> x.place(1, 0), x -> x.place(1, 0), x -> x.walk(0, 1, 2), x -> x.sell(0, 9), x -> x.box(0, 9))
            .with(x -> x.enter(0, 4))
            .due("37 not in minute 0", 0, x -> x.count(13))
            .with(x -> x.let(0, 0), x -> x.minutes(1))
            .due("37 in a box, too", 3, x -> x.count(13))
            .with(x -> x.go(0, 1), x -> x.minutes(1))
            .due("37 walking: nowhere", 3, x -> x.count(13))
            .with(x -> x.minutes(1))
            .due("37 in the minute in which it comes", 6, x -> x.count(13))
            .with(x -> x.enter(1, 9), x -> x.leave(1), x -> x.minutes(1))
            .due("37 what was there between two minutes counts not", 9, x -> x.count(13))
            .with(x -> x.close())
            .due("37 of this night", 0, x -> x.count(13));
    }
}
