import java.util.ArrayDeque;
import java.util.ArrayList;
import java.util.Arrays;
import java.util.Deque;
import java.util.HashSet;
import java.util.List;
import java.util.Set;

/**
 * The document told once more, as literally and as wastefully as can be: pictures of every minute
 * are stored, ways and rows are searched for anew each time, prices are put in postfix.
 */
final class Model {
    static final int BAD = -1, NOT = -2, FULL = -3, NO_WAY = -4, FORGED = -5, VOID = -2000000000;

    record Place(int room, boolean covered) { }
    record Span(int from, int to) { }
    record Fuse(int a, int b, int length) { }
    record Price(int kind, int from, int made, String text) { }
    record Closed(int takings, int rain, int heads) { }
    record Theft(int minute, int place) { }
    record Order(int party, int slices, boolean lacked) { }

    static final class Guest {
        int heads;
        int ticket;
        Integer at;
        Integer goal;
        int due;
        int paid;
        int refund;
        int slices;
        int came;

        boolean in() {
            return at != null || goal != null;
        }
    }

    static final class Box {
        int place;
        int seats;
        int guest = -1;
    }

    final List<Place> places = new ArrayList<>();
    final int[][] walks = new int[16][16];
    final List<Span> spans = new ArrayList<>();
    final Set<Integer> sold = new HashSet<>();
    final List<Guest> guests = new ArrayList<>();
    final List<Integer> lamps = new ArrayList<>();
    final List<Fuse> fuses = new ArrayList<>();
    int[] seconds = null;
    int litAt;
    final List<Box> boxes = new ArrayList<>();
    int grams = 0;
    int slice = 10;
    int waiters = 1;
    List<Order> row = new ArrayList<>();
    String tape = "";
    final List<Price> prices = new ArrayList<>();
    final List<Closed> closed = new ArrayList<>();
    final List<Theft> thefts = new ArrayList<>();
    final List<List<Integer>> pictures = new ArrayList<>();
    int night = 0;
    int minute = 0;
    int forged = 0;
    int crush = 0;
    int takings = 0;
    int served = 0;

    int call(int method, int a, int b, int c) {
        switch (method) {
            case 0: return place(a, b);
            case 1: return walk(a, b, c);
            case 2: return noPlace(a) || noPlace(b) ? BAD : way(a, b);
            case 3: return rain(a, b);
            case 4: return sell(a, b);
            case 5: return enter(a, b);
            case 6: return go(a, b);
            case 7: return leave(a);
            case 8: return party(a, b);
            case 9: return noPlace(a) ? BAD : headsAt(a);
            case 10: return minutes(a);
            case 11: return lamp(a);
            case 12: return fuse(a, b, c);
            case 13: return light(a, b);
            case 14: return noLamp(a) ? BAD : secondOf(a) < 0 ? NOT : secondOf(a);
            case 15: return dark();
            case 16: return spent();
            case 17: return best(a);
            case 18: return box(a, b);
            case 19: return let(a, b);
            case 20: return rise(a);
            case 21: return noBox(a) ? BAD : boxes.get(a).guest < 0 ? NOT : boxes.get(a).guest;
            case 22: return ham(a);
            case 23: return rule(a, b);
            case 24: return order(a, b);
            case 25: return feed(a, b);
            case 26: return price(a, b);
            case 27: return bad(a, 0, 2) || bad(b, 0, 199) || bad(c, 0, 199) ? BAD : inForce(a, b, c);
            case 28: return noPrice(a) || noParty(b) || bad(c, 0, 99) ? VOID : gives(a, b, c);
            case 29: return close();
            case 30: return night(a, b);
            case 31: return foretold(a);
            case 32: return stolen(a, b);
            case 33: return bad(a, 0, thefts.size() - 1) ? BAD : near(a).size();
            case 34: return doubt(a);
            default: return count(a);
        }
    }

    static boolean bad(int v, int least, int most) {
        return v < least || v > most;
    }

    boolean noPlace(int p) {
        return bad(p, 0, places.size() - 1);
    }

    boolean noParty(int p) {
        return bad(p, 0, guests.size() - 1);
    }

    boolean noLamp(int l) {
        return bad(l, 0, lamps.size() - 1);
    }

    boolean noBox(int b) {
        return bad(b, 0, boxes.size() - 1);
    }

    boolean noPrice(int p) {
        return bad(p, 0, prices.size() - 1);
    }

    int place(int room, int covered) {
        if (bad(room, 1, 999) || bad(covered, 0, 1)) {
            return BAD;
        }
        if (places.size() == 16) {
            return FULL;
        }
        places.add(new Place(room, covered == 1));
        return places.size() - 1;
    }

    int walk(int a, int b, int minutes) {
        if (noPlace(a) || noPlace(b) || a == b || bad(minutes, 0, 60)) {
            return BAD;
        }
        int before = walks[Math.min(a, b)][Math.max(a, b)];
        walks[Math.min(a, b)][Math.max(a, b)] = minutes;
        return before;
    }

    int way(int a, int b) {
        long[] far = new long[places.size()];
        Arrays.fill(far, Long.MAX_VALUE / 4);
        far[a] = 0;
        for (int round = 0; round < places.size(); round++) {
            for (int i = 0; i < places.size(); i++) {
                for (int j = i + 1; j < places.size(); j++) {
                    if (walks[i][j] > 0) {
                        far[i] = Math.min(far[i], far[j] + walks[i][j]);
                        far[j] = Math.min(far[j], far[i] + walks[i][j]);
                    }
                }
            }
        }
        return far[b] > 100000 ? NO_WAY : (int) far[b];
    }

    int rain(int from, int to) {
        if (from < minute || to <= from || to > 480) {
            return BAD;
        }
        if (spans.size() == 20) {
            return FULL;
        }
        spans.add(new Span(from, to));
        return spans.size();
    }

    boolean rains(int m) {
        return spans.stream().anyMatch(s -> s.from <= m && m < s.to);
    }

    int wet(int first, int last) {
        int sum = 0;
        for (int m = first; m <= last; m++) {
            sum += rains(m) ? 1 : 0;
        }
        return sum;
    }

    int sell(int a, int b) {
        if (a < 0 || b > 299 || a > b) {
            return BAD;
        }
        int before = sold.size();
        for (int t = a; t <= b; t++) {
            sold.add(t);
        }
        return sold.size() - before;
    }

    int enter(int ticket, int heads) {
        if (bad(ticket, 0, 299) || bad(heads, 1, 20)) {
            return BAD;
        }
        if (!sold.contains(ticket) || places.isEmpty()) {
            return NOT;
        }
        if (guests.stream().anyMatch(g -> g.in() && g.ticket == ticket)) {
            forged++;
            return FORGED;
        }
        if (guests.size() == 100) {
            return FULL;
        }
        Guest g = new Guest();
        g.heads = heads;
        g.ticket = ticket;
        g.at = 0;
        g.came = minute;
        guests.add(g);
        g.paid = charge(0, guests.size() - 1, 0);
        takings += g.paid;
        return guests.size() - 1;
    }

    int charge(int kind, int party, int slices) {
        int price = inForce(kind, night, night);
        return price < 0 ? 0 : gives(price, party, slices);
    }

    int go(int party, int place) {
        if (noParty(party) || noPlace(place)) {
            return BAD;
        }
        Guest g = guests.get(party);
        if (g.at == null || g.at == place) {
            return NOT;
        }
        int way = way(g.at, place);
        if (way >= 0) {
            send(party, place, way);
        }
        return way;
    }

    void send(int party, int place, int way) {
        leaveBox(party);
        Guest g = guests.get(party);
        g.at = null;
        g.goal = place;
        g.due = minute + way;
    }

    int boxOf(int party) {
        for (int i = 0; i < boxes.size(); i++) {
            if (boxes.get(i).guest == party) {
                return i;
            }
        }
        return -1;
    }

    void leaveBox(int party) {
        int box = boxOf(party);
        if (box >= 0) {
            boxes.get(box).guest = -1;
            row.removeIf(o -> o.party == party);
        }
    }

    int leave(int party) {
        if (noParty(party)) {
            return BAD;
        }
        Guest g = guests.get(party);
        return g.at == null || g.at != 0 ? NOT : out(party);
    }

    int out(int party) {
        Guest g = guests.get(party);
        g.refund = charge(2, party, 0);
        takings -= g.refund;
        leaveBox(party);
        g.at = null;
        g.goal = null;
        return g.refund;
    }

    int party(int party, int what) {
        if (noParty(party) || bad(what, 0, 9)) {
            return BAD;
        }
        Guest g = guests.get(party);
        int where = g.at != null ? g.at : g.goal != null ? g.goal : -1;
        int[] told = {g.heads, g.ticket, g.at != null ? 0 : g.goal != null ? 1 : 2, where,
            g.goal != null ? g.due : -1, boxOf(party), g.paid, g.refund, g.slices, g.came};
        return told[what];
    }

    int headsAt(int place) {
        return guests.stream().filter(g -> g.at != null && g.at == place).mapToInt(g -> g.heads).sum();
    }

    int headsIn() {
        return guests.stream().filter(Guest::in).mapToInt(g -> g.heads).sum();
    }

    List<Integer> picture() {
        List<Integer> taken = new ArrayList<>();
        for (Guest g : guests) {
            taken.add(g.at == null ? -1 : g.at);
        }
        return taken;
    }

    int minutes(int n) {
        if (bad(n, 1, 60) || minute + n > 479) {
            return BAD;
        }
        for (int i = 0; i < n; i++) {
            if (minute == 0) {
                pictures.add(picture());
            }
            minute++;
            pass();
            pictures.add(picture());
        }
        return minute;
    }

    void pass() {
        for (Guest g : guests) {
            if (g.goal != null && g.due <= minute) {
                g.at = g.goal;
                g.goal = null;
            }
        }
        if (rains(minute) && !rains(minute - 1)) {
            for (int p = 0; p < guests.size(); p++) {
                Guest g = guests.get(p);
                if (g.at != null && !places.get(g.at).covered && boxOf(p) < 0) {
                    shelter(p, g.at);
                }
            }
        }
        wait(waiters);
        for (int p = 0; p < places.size(); p++) {
            crush += Math.max(0, headsAt(p) - places.get(p).room);
        }
    }

    void shelter(int party, int from) {
        int best = -1;
        for (int p = 1; p < places.size(); p++) {
            int way = way(from, p);
            if (places.get(p).covered && way >= 0 && (best < 0 || way < way(from, best))) {
                best = p;
            }
        }
        if (best > 0) {
            send(party, best, way(from, best));
        }
    }

    void wait(int hands) {
        List<Order> looked = new ArrayList<>(row.subList(0, Math.min(hands, row.size())));
        List<Order> rest = new ArrayList<>(row.subList(looked.size(), row.size()));
        for (Order o : looked) {
            if (o.slices * slice <= grams) {
                grams -= o.slices * slice;
                served += o.slices;
                Guest g = guests.get(o.party);
                int paid = charge(1, o.party, o.slices);
                g.slices += o.slices;
                g.paid += paid;
                takings += paid;
            } else if (!o.lacked) {
                rest.add(new Order(o.party, o.slices, true));
            }
        }
        row = rest;
    }

    int lamp(int oil) {
        if (bad(oil, 1, 480)) {
            return BAD;
        }
        if (lamps.size() == 40) {
            return FULL;
        }
        lamps.add(oil);
        return lamps.size() - 1;
    }

    int fuse(int a, int b, int length) {
        if (noLamp(a) || noLamp(b) || a == b || bad(length, 1, 999)) {
            return BAD;
        }
        if (fuses.size() == 80) {
            return FULL;
        }
        fuses.add(new Fuse(a, b, length));
        return fuses.size();
    }

    int[] burn(int a, int b) {
        int none = 1 << 28;
        int[] row = new int[lamps.size()];
        Arrays.fill(row, none);
        row[a] = 0;
        row[b] = 0;
        for (boolean changed = true; changed;) {
            changed = false;
            for (Fuse f : fuses) {
                int ab = Math.min(row[f.b], row[f.a] + f.length);
                int ba = Math.min(row[f.a], row[f.b] + f.length);
                changed |= ab < row[f.b] || ba < row[f.a];
                row[f.b] = ab;
                row[f.a] = ba;
            }
        }
        for (int i = 0; i < row.length; i++) {
            row[i] = row[i] >= none ? -1 : row[i] / 10 + (row[i] % 10 == 0 ? 0 : 1);
        }
        return row;
    }

    static int last(int[] row) {
        return Arrays.stream(row).max().orElse(0);
    }

    static long darkIn(int[] row) {
        return Arrays.stream(row).filter(s -> s < 0).count();
    }

    int light(int a, int b) {
        if (noLamp(a) || b != -1 && noLamp(b)) {
            return BAD;
        }
        seconds = burn(a, b == -1 ? a : b);
        litAt = minute;
        return last(seconds);
    }

    int secondOf(int lamp) {
        return seconds == null || lamp >= seconds.length ? -1 : seconds[lamp];
    }

    int dark() {
        int sum = 0;
        for (int i = 0; i < lamps.size(); i++) {
            sum += secondOf(i) < 0 ? 1 : 0;
        }
        return sum;
    }

    int spent() {
        int sum = 0;
        for (int i = 0; i < lamps.size(); i++) {
            sum += secondOf(i) >= 0 && litAt + lamps.get(i) <= minute ? 1 : 0;
        }
        return sum;
    }

    int best(int lighters) {
        if (bad(lighters, 1, 2)) {
            return BAD;
        }
        if (lamps.size() < lighters) {
            return NOT;
        }
        int[] found = null;
        int named = 0;
        for (int a = 0; a < lamps.size(); a++) {
            for (int b = a; b < lamps.size(); b++) {
                if ((a == b) != (lighters == 1)) {
                    continue;
                }
                int[] now = burn(a, b);
                boolean better = found == null || darkIn(now) < darkIn(found)
                    || darkIn(now) == darkIn(found) && last(now) < last(found);
                if (better) {
                    found = now;
                    named = 100 * a + (lighters == 1 ? 99 : b);
                }
            }
        }
        return named;
    }

    int box(int place, int seats) {
        if (noPlace(place) || bad(seats, 1, 20)) {
            return BAD;
        }
        if (boxes.size() == 20) {
            return FULL;
        }
        Box box = new Box();
        box.place = place;
        box.seats = seats;
        boxes.add(box);
        return boxes.size() - 1;
    }

    int let(int box, int party) {
        if (noBox(box) || noParty(party)) {
            return BAD;
        }
        Box x = boxes.get(box);
        Guest g = guests.get(party);
        if (x.guest >= 0 || g.at == null || g.at != x.place || boxOf(party) >= 0 || g.heads > x.seats) {
            return NOT;
        }
        x.guest = party;
        return 1;
    }

    int rise(int party) {
        if (noParty(party)) {
            return BAD;
        }
        int box = boxOf(party);
        leaveBox(party);
        return box < 0 ? NOT : box;
    }

    int ham(int more) {
        if (bad(more, 1, 9999)) {
            return BAD;
        }
        if (grams + more > 99999) {
            return FULL;
        }
        return grams += more;
    }

    int rule(int what, int v) {
        if (bad(what, 0, 1) || what == 0 && bad(v, 5, 99) || what == 1 && bad(v, 0, 9)) {
            return BAD;
        }
        int before = what == 0 ? slice : waiters;
        if (what == 0) {
            slice = v;
        } else {
            waiters = v;
        }
        return before;
    }

    int order(int party, int slices) {
        if (noParty(party) || bad(slices, 1, 99)) {
            return BAD;
        }
        if (boxOf(party) < 0) {
            return NOT;
        }
        if (row.size() == 60) {
            return FULL;
        }
        row.add(new Order(party, slices, false));
        return row.size();
    }

    int feed(int n, int v) {
        if (bad(n, 1, 4)) {
            return BAD;
        }
        if (tape.length() + n > 120) {
            return FULL;
        }
        for (int i = 0; i < n; i++) {
            tape += (char) ((v >>> (8 * i)) & 255);
        }
        return tape.length();
    }

    int price(int kind, int from) {
        if (bad(kind, 0, 2) || bad(from, 0, 199)) {
            return BAD;
        }
        if (prices.size() == 30) {
            return FULL;
        }
        String text = tape;
        tape = "";
        int fault = fault(text);
        if (fault >= 0) {
            return -100 - fault;
        }
        prices.add(new Price(kind, from, night, text));
        return prices.size() - 1;
    }

    /** Walks over the text with the signs that may stand next; -1 if it is faultless. */
    static int fault(String text) {
        boolean wanted = true;
        boolean tested = false;
        int digits = 0;
        Deque<Boolean> compared = new ArrayDeque<>(List.of(false));
        for (int i = 0; i < text.length(); i++) {
            char c = text.charAt(i);
            boolean digit = c >= '0' && c <= '9';
            boolean outside = compared.size() == 1;
            if (wanted && c == '(' && compared.size() < 9) {
                compared.push(false);
            } else if (wanted && (digit || "pmrngsct".indexOf(c) >= 0)) {
                wanted = false;
                digits = digit ? 1 : 5;
            } else if (!wanted && digit && digits < 5) {
                digits++;
            } else if (!wanted && "+-*/".indexOf(c) >= 0) {
                wanted = true;
            } else if (!wanted && "<=>".indexOf(c) >= 0 && !compared.peek()) {
                compared.pop();
                compared.push(true);
                wanted = true;
            } else if (!wanted && c == ')' && !outside) {
                compared.pop();
                digits = 5;
            } else if (!wanted && outside && (c == ';' || c == ':' && !tested)) {
                tested = c == ':';
                compared.pop();
                compared.push(false);
                wanted = true;
            } else {
                return i;
            }
        }
        return wanted || compared.size() > 1 ? text.length() : -1;
    }

    int inForce(int kind, int on, int k) {
        int found = NOT;
        for (int i = 0; i < prices.size(); i++) {
            Price p = prices.get(i);
            if (p.kind == kind && p.made <= k && p.from <= on) {
                found = i;
            }
        }
        return found;
    }

    int gives(int price, int party, int slices) {
        Guest g = guests.get(party);
        int[] names = {g.heads, minute, rains(minute) ? 1 : 0, night, wet(g.came, minute), slices, headsIn(),
            minute - g.came};
        for (String clause : prices.get(price).text.split(";")) {
            String[] parts = clause.split(":");
            if (parts.length == 1 || value(parts[0], names) != 0) {
                return Math.max(0, Math.min(100000, value(parts[parts.length - 1], names)));
            }
        }
        return 0;
    }

    /** By two stacks: what stands stronger, or as strong and earlier, is worked out first. */
    static int value(String text, int[] names) {
        Deque<Integer> values = new ArrayDeque<>();
        Deque<Character> signs = new ArrayDeque<>();
        for (int i = 0; i < text.length(); i++) {
            char c = text.charAt(i);
            if (c == '(') {
                signs.push(c);
            } else if (c == ')') {
                while (signs.peek() != '(') {
                    work(values, signs.pop());
                }
                signs.pop();
            } else if (c >= '0' && c <= '9') {
                boolean goesOn = i > 0 && Character.isDigit(text.charAt(i - 1));
                values.push((goesOn ? values.pop() * 10 : 0) + c - '0');
            } else if ("pmrngsct".indexOf(c) >= 0) {
                values.push(names["pmrngsct".indexOf(c)]);
            } else {
                while (!signs.isEmpty() && strength(signs.peek()) >= strength(c)) {
                    work(values, signs.pop());
                }
                signs.push(c);
            }
        }
        while (!signs.isEmpty()) {
            work(values, signs.pop());
        }
        return values.pop();
    }

    static int strength(char sign) {
        return sign == '(' ? 0 : "<=>".indexOf(sign) >= 0 ? 1 : "+-".indexOf(sign) >= 0 ? 2 : 3;
    }

    static void work(Deque<Integer> values, char sign) {
        int b = values.pop();
        int a = values.pop();
        switch (sign) {
            case '<' -> values.push(a < b ? 1 : 0);
            case '=' -> values.push(a == b ? 1 : 0);
            case '>' -> values.push(a > b ? 1 : 0);
            case '+' -> values.push(a + b);
            case '-' -> values.push(a - b);
            case '*' -> values.push(a * b);
            default -> values.push(b == 0 ? 0 : a / b);
        }
    }

    int close() {
        if (night == 199) {
            return NOT;
        }
        for (int p = 0; p < guests.size(); p++) {
            if (guests.get(p).in()) {
                out(p);
            }
        }
        closed.add(new Closed(takings, wet(0, minute), guests.stream().mapToInt(g -> g.heads).sum()));
        night++;
        minute = 0;
        spans.clear();
        guests.clear();
        row.clear();
        seconds = null;
        thefts.clear();
        pictures.clear();
        crush = 0;
        takings = 0;
        return closed.get(closed.size() - 1).takings;
    }

    int night(int n, int what) {
        if (bad(n, 0, closed.size() - 1) || bad(what, 0, 2)) {
            return VOID;
        }
        Closed c = closed.get(n);
        return what == 0 ? c.takings : what == 1 ? c.rain : c.heads;
    }

    int foretold(int rain) {
        if (bad(rain, 0, 480) || closed.isEmpty()) {
            return VOID;
        }
        int least = closed.stream().mapToInt(c -> Math.abs(c.rain - rain)).min().getAsInt();
        double mean = closed.stream().filter(c -> Math.abs(c.rain - rain) == least)
            .mapToInt(c -> c.takings).average().getAsDouble();
        return (int) Math.floor(mean);
    }

    int stolen(int when, int place) {
        if (bad(when, 0, minute) || noPlace(place)) {
            return BAD;
        }
        if (thefts.size() == 20) {
            return FULL;
        }
        thefts.add(new Theft(when, place));
        return thefts.size();
    }

    List<Integer> near(int theft) {
        Theft t = thefts.get(theft);
        List<Integer> seen = t.minute < pictures.size() ? pictures.get(t.minute) : picture();
        List<Integer> found = new ArrayList<>();
        for (int p = 0; p < seen.size(); p++) {
            if (seen.get(p) == t.place) {
                found.add(p);
            }
        }
        return found;
    }

    int doubt(int party) {
        if (noParty(party)) {
            return BAD;
        }
        int sum = 0;
        for (int i = 0; i < thefts.size(); i++) {
            sum += near(i).contains(party) ? 1 : 0;
        }
        return sum;
    }

    int count(int what) {
        int[] told = {places.size(), guests.size(), headsIn(), lamps.size(), fuses.size(), boxes.size(),
            row.size(), grams, prices.size(), night, minute, tape.length(), forged, crush, takings, served};
        return bad(what, 0, 15) ? BAD : told[what];
    }
}
