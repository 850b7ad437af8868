import java.util.ArrayList;
import java.util.LinkedHashMap;
import java.util.List;
import java.util.Map;
import java.util.Set;
import java.util.function.IntFunction;

/**
 * A run of calls that is kept, so that it can be made again on a new object. All that can be seen of
 * where it led is looked at on such objects: no object gets more than its 512 calls, and a look that
 * changes something disturbs no other one. So a refused call can be shown to leave all as it was.
 */
final class Story {
    /** One call, with its arguments. */
    interface Call {
        int on(PleasureGarden x);
    }

    private record Look(String name, Call call) { }

    private static final int MOST_CALLS = 512;
    private static final int VOID = -2000000000;

    private final Check check;
    private final List<Call> calls = new ArrayList<>();
    private final PleasureGarden garden = new PleasureGarden();
    /** What all looks told, kept while the run does not grow. */
    private Map<String, Integer> seen = Map.of();

    Story(Check check) {
        this.check = check;
    }

    /** Calls whose answers are looked at elsewhere. */
    Story with(Call... more) {
        for (Call call : more) {
            make(call);
        }
        return this;
    }

    /** The same call with each number from first to last. */
    Story withEach(int first, int last, IntFunction<Call> of) {
        for (int i = first; i <= last; i++) {
            make(of.apply(i));
        }
        return this;
    }

    /** A text comes to the tape. */
    Story feed(String text) {
        for (int i = 0; i < text.length(); i += 4) {
            int n = Math.min(4, text.length() - i);
            int v = Check.packed(text, i, n);
            make(x -> x.feed(n, v));
        }
        return this;
    }

    Story price(int kind, int from, String text) {
        feed(text);
        make(x -> x.price(kind, from));
        return this;
    }

    Story due(String what, int want, Call call) {
        check.due(what, make(call), want);
        return this;
    }

    /** Each of these calls is answered so, and all is as it was. */
    Story refuses(String what, int want, Call... refused) {
        for (Call call : refused) {
            leavesAllBut(Set.of(), what, want, call);
        }
        return this;
    }

    /** A call is answered so, and all is as it was but for the looks that are named. */
    Story leavesAllBut(Set<String> changed, String what, int want, Call call) {
        check.due(what, call.on(again()), want);
        if (seen.isEmpty()) {
            seen = lookAround(x -> 0);
        }
        Map<String, Integer> now = lookAround(call);
        for (Map.Entry<String, Integer> look : now.entrySet()) {
            if (!changed.contains(look.getKey())) {
                check.due(what + ", and then " + look.getKey(), look.getValue(), seen.get(look.getKey()));
            }
        }
        return this;
    }

    /** One below the least and one above the most are refused, and so are the ends of int. */
    Story refusesOutside(String what, int least, int most, int want, IntFunction<Call> of) {
        int[] outside = {least - 1, most + 1, Integer.MIN_VALUE, Integer.MAX_VALUE};
        for (int v : outside) {
            refuses(what + ": " + v, want, of.apply(v));
        }
        return this;
    }

    /** As refusesOutside; the least and the most themselves are not refused. */
    Story bounds(String what, int least, int most, int want, IntFunction<Call> of) {
        check.due(what + ": " + least + " is taken", of.apply(least).on(again()) >= 0 ? 1 : 0, 1);
        check.due(what + ": " + most + " is taken", of.apply(most).on(again()) >= 0 ? 1 : 0, 1);
        return refusesOutside(what, least, most, want, of);
    }

    private int make(Call call) {
        calls.add(call);
        if (calls.size() > MOST_CALLS) {
            throw new IllegalStateException("a story of more than 512 calls");
        }
        seen = Map.of();
        return call.on(garden);
    }

    private PleasureGarden again() {
        PleasureGarden x = new PleasureGarden();
        for (Call call : calls) {
            call.on(x);
        }
        return x;
    }

    private PleasureGarden again(Call last) {
        PleasureGarden x = again();
        last.on(x);
        return x;
    }

    /** What there is to be seen behind the run and one call more. */
    private Map<String, Integer> lookAround(Call last) {
        Map<String, Integer> told = new LinkedHashMap<>();
        List<Look> apart = looksApart(again());
        int room = MOST_CALLS - calls.size() - 1;
        for (int i = 0; i < apart.size(); i += room) {
            take(apart.subList(i, Math.min(i + room, apart.size())), again(last), told);
        }
        for (List<Look> row : List.of(tapeRow(), comingMinutes(false), comingMinutes(true))) {
            // Some looks of a row are made by two or three calls.
            if (row.size() + 10 > room) {
                throw new IllegalStateException("a story too long to be looked at");
            }
            take(row, again(last), told);
        }
        return told;
    }

    private static void take(List<Look> looks, PleasureGarden x, Map<String, Integer> told) {
        for (Look look : looks) {
            told.put(look.name, look.call.on(x));
        }
    }

    /** Looks that tell the same in any order, though some of them change something. */
    private static List<Look> looksApart(PleasureGarden now) {
        List<Look> out = new ArrayList<>();
        for (int i = 0; i <= 15; i++) {
            int what = i;
            out.add(new Look("count(" + what + ")", x -> x.count(what)));
        }
        addPlaces(out, now.count(0));
        addParties(out, now.count(1));
        addLamps(out, now.count(3));
        addPrices(out, now.count(8), now.count(1), now.count(9));
        addNights(out, now.count(9));
        for (int i = 0; i < 20; i++) {
            int n = i;
            out.add(new Look("in(" + n + ")", x -> x.in(n)));
            out.add(new Look("near(" + n + ")", x -> x.near(n)));
        }
        for (int i = 0; i < 300; i++) {
            int ticket = i;
            out.add(new Look("ticket " + ticket, x -> x.sell(ticket, ticket)));
        }
        out.add(new Look("slice", x -> x.rule(0, 10)));
        out.add(new Look("waiters", x -> x.rule(1, 1)));
        out.add(new Look("spans of rain", x -> x.rain(479, 480)));
        out.add(new Look("thefts", x -> x.stolen(0, 0)));
        return out;
    }

    private static void addPlaces(List<Look> out, int places) {
        for (int i = 0; i < places; i++) {
            int a = i;
            out.add(new Look("heads(" + a + ")", x -> x.heads(a)));
            for (int j = 0; j < places; j++) {
                int b = j;
                out.add(new Look("way(" + a + ", " + b + ")", x -> x.way(a, b)));
            }
        }
        for (int i = 0; i < places; i++) {
            for (int j = 0; j < i; j++) {
                int a = i;
                int b = j;
                out.add(new Look("walk of " + a + " and " + b, x -> x.walk(a, b, 0)));
            }
        }
    }

    private static void addParties(List<Look> out, int parties) {
        for (int i = 0; i < parties; i++) {
            int party = i;
            out.add(new Look("doubt(" + party + ")", x -> x.doubt(party)));
            for (int j = 0; j <= 9; j++) {
                int what = j;
                out.add(new Look("party(" + party + ", " + what + ")", x -> x.party(party, what)));
            }
        }
    }

    private static void addLamps(List<Look> out, int lamps) {
        for (int i = 0; i < lamps; i++) {
            int lamp = i;
            out.add(new Look("burns(" + lamp + ")", x -> x.burns(lamp)));
        }
        out.add(new Look("dark()", x -> x.dark()));
        out.add(new Look("spent()", x -> x.spent()));
        out.add(new Look("best(1)", x -> x.best(1)));
        out.add(new Look("best(2)", x -> x.best(2)));
    }

    private static void addPrices(List<Look> out, int prices, int parties, int night) {
        int[] nights = {0, night, Math.min(night + 1, 199), 199};
        for (int kind = 0; kind <= 2; kind++) {
            for (int on : nights) {
                for (int k : nights) {
                    int ofKind = kind;
                    out.add(new Look("inForce(" + kind + ", " + on + ", " + k + ")", x -> x.inForce(ofKind, on, k)));
                }
            }
        }
        for (int i = 0; i < prices; i++) {
            for (int j = 0; j < Math.min(parties, 3); j++) {
                int price = i;
                int party = j;
                out.add(new Look("gives(" + price + ", " + party + ", 7)", x -> x.gives(price, party, 7)));
            }
        }
    }

    private static void addNights(List<Look> out, int closed) {
        for (int i = 0; i < closed; i++) {
            for (int j = 0; j <= 2; j++) {
                int night = i;
                int what = j;
                out.add(new Look("night(" + night + ", " + what + ")", x -> x.night(night, what)));
            }
        }
        for (int i : new int[] {0, 1, 5, 30, 240, 480}) {
            out.add(new Look("foretold(" + i + ")", x -> x.foretold(i)));
        }
    }

    /** What stands on the tape shows when it is made a price, and that gives something. */
    private static List<Look> tapeRow() {
        List<Look> out = new ArrayList<>();
        out.add(new Look("a first place", x -> x.place(9, 1)));
        out.add(new Look("all tickets", x -> x.sell(0, 299)));
        out.add(new Look("a first party", x -> x.enter(299, 3)));
        out.add(new Look("the tape as a price", x -> x.price(0, 0)));
        out.add(new Look("what the tape gives", x -> x.count(8) == 0 ? VOID : x.gives(x.count(8) - 1, 0, 7)));
        return out;
    }

    /** What the next minutes bring, with more ham or as it is, and the night's end in its last minute. */
    private static List<Look> comingMinutes(boolean moreHam) {
        List<Look> out = new ArrayList<>();
        String kind = moreHam ? " with more ham" : " later";
        if (moreHam) {
            out.add(new Look("ham" + kind, x -> x.ham(9999)));
        }
        int[] steps = {1, 1, 1, 2, 60, 60, 60, 60, 60, 60, 60, 60, 32, 16, 8, 4, 2, 1};
        for (int i = 0; i < steps.length; i++) {
            int step = steps[i];
            String when = " at step " + i + kind;
            out.add(new Look("minutes(" + step + ")" + when, x -> x.minutes(step)));
            for (int what : i < 4 ? new int[] {6, 7, 13, 14, 15} : new int[] {13}) {
                out.add(new Look("count(" + what + ")" + when, x -> x.count(what)));
            }
            for (int j = 0; j < (i < 4 ? 6 : 1); j++) {
                int party = j;
                out.add(new Look("where " + party + " is" + when, x -> x.party(party, 3)));
                out.add(new Look("state of " + party + when, x -> x.party(party, 2)));
            }
        }
        out.add(new Look("close()" + kind, x -> x.close()));
        out.add(new Look("its rain" + kind, x -> x.night(x.count(9) - 1, 1)));
        out.add(new Look("its heads" + kind, x -> x.night(x.count(9) - 1, 2)));
        out.add(new Look("its served" + kind, x -> x.count(15)));
        return out;
    }
}
