/** Promises 20 to 26 at their edges, and the waiters (section 4), a sentence at a time. */
public final class BoxEdgeTest extends Edges {
    public static void main(String[] args) {
        boxNumbers();
        twentyBoxes();
        letNumbers();
        letNot();
        letSeats();
        freeWhenLeft();
        riseNumbers();
        riseNot();
        inABox();
        hamNumbers();
        kitchenIsFull();
        ruleNumbers();
        ruleOfSlices();
        orderNumbers();
        orderInABox();
        sixtyOrders();
        asManyAsWaiters();
        gramsToTheLast();
        sliceAsItIsNow();
        lackingOnce();
        notLookedAtAgain();
        lackingInAFullRow();
        ordersOfWhoLeaves();
        servedIsPaid();
        CHECK.finish();
    }

    /** Party 0 sits in box 0 at the gate, party 1 in box 1; party 2 stands beside them. */
    private static Story seated() {
        return garden().with(x -> x.box(0, 20), x -> x.box(0, 20), x -> x.enter(0, 2), x -> x.enter(1, 3),
            x -> x.enter(2, 4), x -> x.let(0, 0), x -> x.let(1, 1));
    }

    /** "each at a PLACE, with SEATS (1 .. 20)". */
    private static void boxNumbers() {
        garden()
            .bounds("20 a place", 0, 3, BAD, v -> x -> x.box(v, 5))
            .bounds("20 SEATS (1 .. 20)", 1, 20, BAD, v -> x -> x.box(0, v));
    }

    /** "BOXES 0 .. 19, as they were built". */
    private static void twentyBoxes() {
        Story s = garden();
        for (int i = 0; i < 20; i++) {
            int box = i;
            s.due("20 BOX " + box, box, x -> x.box(box % 4, box + 1));
        }
        s.refuses("20 the 21st", FULL, x -> x.box(0, 1), x -> x.box(3, 20));
        s.refuses("20 BAD is named ahead of FULL", BAD, x -> x.box(4, 1), x -> x.box(0, 0), x -> x.box(0, 21));
        s.with(x -> x.close()).refuses("20 they stay", FULL, x -> x.box(0, 1));
        s.due("23 the last one", NOT, x -> x.in(19));
    }

    private static void letNumbers() {
        garden().with(x -> x.box(0, 9), x -> x.box(0, 9), x -> x.enter(0, 2), x -> x.enter(1, 2))
            .bounds("21 a box", 0, 1, BAD, v -> x -> x.let(v, 0))
            .bounds("21 a party", 0, 1, BAD, v -> x -> x.let(0, v))
            .due("21 it is let: 1", 1, x -> x.let(0, 0))
            .refuses("21 BAD is named ahead of NOT", BAD, x -> x.let(0, 2), x -> x.let(2, 0), x -> x.let(0, -1));
    }

    /** 21: "NOT: it is LET, or the PARTY is not as said": "AT its PLACE, in no BOX". */
    private static void letNot() {
        garden().with(x -> x.box(0, 9), x -> x.box(0, 9), x -> x.box(1, 9), x -> x.enter(0, 2), x -> x.enter(1, 2))
            .refuses("21 the party is elsewhere", NOT, x -> x.let(2, 0))
            .with(x -> x.let(0, 0))
            .refuses("21 it is let to another one", NOT, x -> x.let(0, 1))
            .refuses("21 it is let to this one", NOT, x -> x.let(0, 0))
            .refuses("21 the party is in a box", NOT, x -> x.let(1, 0))
            .with(x -> x.go(1, 1))
            .refuses("21 the party walks", NOT, x -> x.let(1, 1), x -> x.let(2, 1))
            .with(x -> x.minutes(2))
            .due("21 it is there", 1, x -> x.let(2, 1))
            .with(x -> x.leave(0))
            .refuses("21 the party is out", NOT, x -> x.let(0, 0), x -> x.let(1, 0));
    }

    /** 21: "with HEADS that it seats". */
    private static void letSeats() {
        garden().with(x -> x.box(0, 1), x -> x.box(0, 19), x -> x.box(0, 20), x -> x.enter(0, 20), x -> x.enter(1, 2))
            .with(x -> x.enter(2, 1))
            .refuses("21 one seat too few", NOT, x -> x.let(1, 0), x -> x.let(0, 1))
            .due("21 as many seats as heads", 1, x -> x.let(2, 0))
            .due("21 more seats than heads", 1, x -> x.let(1, 1))
            .due("21 one of one", 1, x -> x.let(0, 2));
    }

    /** "it is FREE when the PARTY GOES, is OUT, or leaves it". */
    private static void freeWhenLeft() {
        seated().with(x -> x.go(0, 1))
            .due("23 it goes: free", NOT, x -> x.in(0))
            .due("21 let to the next", 1, x -> x.let(0, 2));
        seated().with(x -> x.leave(0)).due("23 it is out: free", NOT, x -> x.in(0));
        seated().with(x -> x.rise(0))
            .due("23 it leaves it: free", NOT, x -> x.in(0))
            .due("23 the other one is not", 1, x -> x.in(1))
            .due("21 let to the same again", 1, x -> x.let(0, 0));
        seated().with(x -> x.close())
            .due("23 the night is closed: free", NOT, x -> x.in(0))
            .with(x -> x.enter(0, 1))
            .due("10 nobody sits down by itself", -1, x -> x.party(0, 5));
    }

    private static void riseNumbers() {
        seated().refusesOutside("22 a party", 0, 2, BAD, v -> x -> x.rise(v))
            .with(x -> x.close())
            .refuses("22 of this night", BAD, x -> x.rise(0));
    }

    /** 22: "the BOX. BAD, NOT." */
    private static void riseNot() {
        seated()
            .refuses("22 in no box", NOT, x -> x.rise(2))
            .due("22 its box", 1, x -> x.rise(1))
            .refuses("22 in none any more", NOT, x -> x.rise(1))
            .due("22 it stays where it is", 0, x -> x.party(1, 3))
            .with(x -> x.go(0, 1))
            .refuses("22 it walks", NOT, x -> x.rise(0))
            .with(x -> x.leave(2))
            .refuses("22 it is out", NOT, x -> x.rise(2));
    }

    /** 23: "Who is in a BOX; NOT: nobody. BAD." */
    private static void inABox() {
        seated().with(x -> x.box(0, 4))
            .refusesOutside("23 a box", 0, 2, BAD, v -> x -> x.in(v))
            .due("23 party 0", 0, x -> x.in(0))
            .due("23 party 1", 1, x -> x.in(1))
            .refuses("23 nobody", NOT, x -> x.in(2));
    }

    /** 24: "So many grams (1 .. 9999)". */
    private static void hamNumbers() {
        seated().bounds("24 grams (1 .. 9999)", 1, 9999, BAD, v -> x -> x.ham(v))
            .due("24 how many there are", 9999, x -> x.ham(9999))
            .due("24 with those that were", 10000, x -> x.ham(1));
    }

    /** "so many grams (0 .. 99999)"; 24: "FULL: above 99999". */
    private static void kitchenIsFull() {
        seated().withEach(1, 9, i -> x -> x.ham(9999)).with(x -> x.ham(9998))
            .due("24 99989", 99989, x -> x.count(7))
            .refuses("24 one above", FULL, x -> x.ham(11), x -> x.ham(9999))
            .refuses("24 BAD is named ahead of FULL", BAD, x -> x.ham(10000), x -> x.ham(MOST_INT), x -> x.ham(0))
            .due("24 to the last gram", 99999, x -> x.ham(10))
            .refuses("24 it is full", FULL, x -> x.ham(1))
            .with(x -> x.order(0, 1), x -> x.minutes(1))
            .due("24 a slice of 10 went", 99999, x -> x.ham(10));
    }

    /** "SLICE: grams of one (5 .. 99; 10 at first)"; "WAITERS (0 .. 9, told; 1 at first)". */
    private static void ruleNumbers() {
        seated().with(x -> x.order(0, 3), x -> x.order(1, 4), x -> x.ham(500))
            .bounds("25 SLICE (5 .. 99)", 5, 99, BAD, v -> x -> x.rule(0, v))
            .bounds("25 WAITERS (0 .. 9)", 0, 9, BAD, v -> x -> x.rule(1, v))
            .bounds("25 what 0, 1", 0, 1, BAD, v -> x -> x.rule(v, 7))
            .refuses("25 a number of the other one", BAD, x -> x.rule(0, 0), x -> x.rule(1, 10), x -> x.rule(0, 4),
                x -> x.rule(1, 99));
    }

    /** 25: "what it was". */
    private static void ruleOfSlices() {
        story()
            .due("25 10 at first", 10, x -> x.rule(0, 5))
            .due("25 the least", 5, x -> x.rule(0, 99))
            .due("25 the most", 99, x -> x.rule(0, 99))
            .due("25 1 at first", 1, x -> x.rule(1, 0))
            .due("25 none", 0, x -> x.rule(1, 9))
            .due("25 nine", 9, x -> x.rule(1, 2))
            .with(x -> x.close())
            .due("25 SLICE stays", 99, x -> x.rule(0, 10))
            .due("25 WAITERS stay", 2, x -> x.rule(1, 1));
    }

    /** "so many SLICES (1 .. 99)". */
    private static void orderNumbers() {
        seated()
            .bounds("26 SLICES (1 .. 99)", 1, 99, BAD, v -> x -> x.order(0, v))
            .refusesOutside("26 a party", 0, 2, BAD, v -> x -> x.order(v, 5))
            .refuses("26 BAD is named ahead of NOT", BAD, x -> x.order(2, 0), x -> x.order(2, 100));
    }

    /** 26: "how many stand in the row ..; NOT: it is in no BOX". */
    private static void orderInABox() {
        seated()
            .refuses("26 in no box", NOT, x -> x.order(2, 1))
            .due("26 the first", 1, x -> x.order(0, 1))
            .due("26 the second, of the same", 2, x -> x.order(0, 99))
            .due("26 the third, of another", 3, x -> x.order(1, 1))
            .with(x -> x.rise(1))
            .refuses("26 in none any more", NOT, x -> x.order(1, 1))
            .with(x -> x.go(0, 1), x -> x.leave(2))
            .refuses("26 it walks", NOT, x -> x.order(0, 1))
            .refuses("26 it is out", NOT, x -> x.order(2, 1))
            .with(x -> x.close())
            .refuses("26 no party of this night", BAD, x -> x.order(0, 1));
    }

    /** 26: "FULL: 60". */
    private static void sixtyOrders() {
        Story s = seated();
        for (int i = 1; i <= 60; i++) {
            int order = i;
            s.due("26 ORDER " + order, order, x -> x.order(order % 2, order));
        }
        s.refuses("26 the 61st", FULL, x -> x.order(0, 1), x -> x.order(1, 99));
        s.refuses("26 NOT is named ahead of FULL", NOT, x -> x.order(2, 1));
        s.refuses("26 BAD is named ahead of FULL", BAD, x -> x.order(0, 0), x -> x.order(3, 1));
        s.with(x -> x.ham(9999), x -> x.minutes(1)).due("26 one was served", 60, x -> x.order(0, 1));
        s.refuses("26 full again", FULL, x -> x.order(0, 1));
    }

    private static Story tenOrders() {
        return seated().with(x -> x.ham(9999)).withEach(1, 10, i -> x -> x.order(0, i));
    }

    /** "as many ORDERS from the row's beginning as there are WAITERS are looked at". */
    private static void asManyAsWaiters() {
        tenOrders().with(x -> x.rule(1, 0), x -> x.minutes(60)).due("26 without waiters", 10, x -> x.count(6))
            .due("26 none is served", 0, x -> x.count(15));
        tenOrders().with(x -> x.minutes(1)).due("26 one waiter", 9, x -> x.count(6))
            .due("26 the first order", 1, x -> x.count(15))
            .with(x -> x.minutes(1)).due("26 then the second one", 3, x -> x.count(15));
        tenOrders().with(x -> x.rule(1, 9), x -> x.minutes(1)).due("26 nine waiters", 1, x -> x.count(6))
            .due("26 all but the last order", 45, x -> x.count(15))
            .with(x -> x.minutes(1)).due("26 more waiters than orders", 0, x -> x.count(6))
            .due("26 all of them", 55, x -> x.count(15))
            .with(x -> x.minutes(1)).due("26 an empty row", 55, x -> x.count(15));
        tenOrders().due("26 none in the minute of the order", 0, x -> x.count(15));
    }

    /** "if THE KITCHEN has the grams (SLICES times SLICE ..) it is SERVED; else it is LACKING". */
    private static void gramsToTheLast() {
        seated().with(x -> x.ham(50), x -> x.order(0, 5), x -> x.minutes(1))
            .due("26 just as many grams", 5, x -> x.party(0, 8))
            .due("26 none is left", 0, x -> x.count(7));
        seated().with(x -> x.ham(49), x -> x.order(0, 5), x -> x.minutes(1))
            .due("26 one gram too few", 0, x -> x.party(0, 8))
            .due("26 none is taken", 49, x -> x.count(7))
            .due("26 it is lacking", 1, x -> x.count(6));
        seated().with(x -> x.order(0, 1), x -> x.minutes(1)).due("26 an empty kitchen", 1, x -> x.count(6));
        seated().with(x -> x.ham(9801), x -> x.rule(0, 99), x -> x.order(0, 99), x -> x.minutes(1))
            .due("26 the largest order", 99, x -> x.party(0, 8))
            .due("26 of the largest slices", 0, x -> x.count(7));
        seated().with(x -> x.ham(100), x -> x.rule(1, 3), x -> x.order(0, 8), x -> x.order(1, 3), x -> x.order(0, 2))
            .with(x -> x.minutes(1))
            .due("26 what is left serves a later one in the same minute", 10, x -> x.party(0, 8))
            .due("26 the one between lacks", 0, x -> x.party(1, 8));
    }

    /** "SLICES times SLICE, as it is now". */
    private static void sliceAsItIsNow() {
        seated().with(x -> x.ham(100), x -> x.order(0, 10), x -> x.rule(0, 5), x -> x.minutes(1))
            .due("26 thinner since", 50, x -> x.count(7));
        seated().with(x -> x.ham(100), x -> x.order(0, 10), x -> x.rule(0, 11), x -> x.minutes(1))
            .due("26 thicker since", 100, x -> x.count(7))
            .with(x -> x.rule(0, 10), x -> x.minutes(1))
            .due("26 as thick as at first", 0, x -> x.count(7));
    }

    /** "goes to the row's end, unless it was LACKING once: then it goes away". */
    private static void lackingOnce() {
        seated().with(x -> x.order(0, 9), x -> x.order(1, 1), x -> x.ham(10), x -> x.minutes(1))
            .due("26 lacking once: it stays in the row", 2, x -> x.count(6))
            .with(x -> x.minutes(1))
            .due("26 at its end: the other one is served", 1, x -> x.party(1, 8))
            .with(x -> x.minutes(1))
            .due("26 lacking twice: away", 0, x -> x.count(6))
            .with(x -> x.ham(9999), x -> x.minutes(1))
            .due("26 it does not come back", 0, x -> x.party(0, 8));
        seated().with(x -> x.order(0, 9), x -> x.minutes(1), x -> x.ham(90), x -> x.minutes(1))
            .due("26 lacking once, then served", 9, x -> x.party(0, 8))
            .with(x -> x.order(0, 9), x -> x.minutes(1))
            .due("26 a new order was not lacking yet", 1, x -> x.count(6));
        seated().with(x -> x.order(0, 4), x -> x.order(1, 3), x -> x.minutes(2), x -> x.ham(500), x -> x.minutes(2))
            .due("26 what lacked stays its party's", 4, x -> x.party(0, 8))
            .due("26 and so does the other's", 3, x -> x.party(1, 8));
    }

    /** "(What comes to the row's end in a MINUTE is not looked at again in it.)" */
    private static void notLookedAtAgain() {
        seated().with(x -> x.rule(1, 9), x -> x.order(0, 1), x -> x.minutes(1))
            .due("26 one order, nine waiters", 1, x -> x.count(6))
            .with(x -> x.minutes(1))
            .due("26 in the next minute", 0, x -> x.count(6));
        seated().with(x -> x.rule(1, 2), x -> x.order(0, 1), x -> x.minutes(1))
            .due("26 one more waiter than orders", 1, x -> x.count(6));
    }

    private static void lackingInAFullRow() {
        seated().withEach(1, 60, i -> x -> x.order(0, 1)).with(x -> x.rule(1, 9), x -> x.minutes(1))
            .due("26 those that lack have their place", 60, x -> x.count(6))
            .refuses("26 no other one has", FULL, x -> x.order(1, 1))
            .with(x -> x.minutes(6))
            .due("26 51 more lacked, and three of the first went", 57, x -> x.count(6));
    }

    /** "ORDERS of a PARTY that leaves its BOX go away unserved." */
    private static void ordersOfWhoLeaves() {
        Story.Call[] leavings = {x -> x.rise(0), x -> x.go(0, 1), x -> x.leave(0)};
        for (Story.Call leaving : leavings) {
            seated().with(x -> x.order(0, 1), x -> x.order(1, 2), x -> x.order(0, 4), x -> x.ham(500)).with(leaving)
                .due("26 its orders go", 1, x -> x.count(6))
                .with(x -> x.minutes(2))
                .due("26 the other's are served", 2, x -> x.count(15))
                .due("26 for the other", 2, x -> x.party(1, 8))
                .due("26 nothing for it", 0, x -> x.party(0, 8));
        }
        seated().with(x -> x.order(1, 1), x -> x.order(0, 2), x -> x.order(1, 4), x -> x.ham(500), x -> x.rise(0))
            .due("26 from the row's middle", 2, x -> x.count(6))
            .with(x -> x.minutes(1))
            .due("26 the one ahead of it is the first", 1, x -> x.party(1, 8))
            .with(x -> x.rise(1))
            .due("26 none is left, nor comes back", 0, x -> x.count(6));
        seated().withEach(1, 60, i -> x -> x.order(i % 2, 1)).with(x -> x.rise(0))
            .due("26 from a full row", 30, x -> x.count(6))
            .due("26 there is room again", 31, x -> x.order(1, 1));
        seated().with(x -> x.order(0, 1), x -> x.order(1, 2), x -> x.close())
            .due("26 all, when the night is closed", 0, x -> x.count(6))
            .with(x -> x.ham(100), x -> x.enter(0, 1), x -> x.minutes(1))
            .due("26 for none of the new night", 0, x -> x.count(15));
    }

    /** "1 SLICES (of an ORDER, when it is SERVED)". */
    private static void servedIsPaid() {
        seated().price(1, 0, "s*100+m").with(x -> x.order(0, 2), x -> x.order(1, 3), x -> x.ham(20))
            .due("30 not when it is told", 0, x -> x.party(0, 6))
            .with(x -> x.minutes(1))
            .due("30 when it is served", 201, x -> x.party(0, 6))
            .with(x -> x.minutes(1))
            .due("30 not when it lacks", 0, x -> x.party(1, 6))
            .due("37 takings", 201, x -> x.count(14))
            .with(x -> x.ham(30), x -> x.minutes(1))
            .due("30 later", 303, x -> x.party(1, 6));
    }
}
