/** What the tests of edges share: the document's answers by their numbers, and gardens to begin with. */
abstract class Edges {
    static final int BAD = -1, NOT = -2, FULL = -3, NO_WAY = -4, FORGED = -5, VOID = -2000000000;
    static final int LEAST_INT = Integer.MIN_VALUE, MOST_INT = Integer.MAX_VALUE;
    static final Check CHECK = new Check();

    static Story story(Story.Call... calls) {
        return new Story(CHECK).with(calls);
    }

    /** Places 0, 1 (open) and 2 (covered) in a row, 2 and 3 minutes apart, place 3 without a walk; all tickets sold. */
    static Story garden() {
        return story(x -> x.place(50, 0), x -> x.place(50, 0), x -> x.place(50, 1), x -> x.place(50, 1),
            x -> x.walk(0, 1, 2), x -> x.walk(1, 2, 3), x -> x.sell(0, 299));
    }

    /** Goes to the last minute of a night: 479. */
    static Story toTheEnd(Story s) {
        return s.withEach(1, 7, i -> x -> x.minutes(60)).with(x -> x.minutes(59));
    }
}
