/** A pleasure garden, night by night and minute by minute; ../shared/DOC.md says what each call does. */
public final class PleasureGarden {
    public static final int BAD = -1, NOT = -2, FULL = -3, NO_WAY = -4, FORGED = -5, VOID = -2000000000;

    private static final int NIGHTS = 200, MINUTES = 480, TICKETS = 300;
    private static final int GATE = 0;
    private static final int ENTRY = 0, SLICES = 1, REFUND = 2;

    private final Grounds grounds = new Grounds();
    private final Sky sky = new Sky();
    private final boolean[] sold = new boolean[TICKETS];
    private final Guests guests = new Guests();
    private final Watch watch = new Watch();
    private final Lamps lamps = new Lamps();
    private final Boxes boxes = new Boxes();
    private final Kitchen kitchen = new Kitchen();
    private final Prices prices = new Prices();
    private final Ledger ledger = new Ledger();
    private int night = 0;
    private int minute = 0;
    private int forged = 0;
    private int crush = 0;
    private int takings = 0;

    public PleasureGarden() {
    }

    // ---- the garden

    public int place(int room, int covered) {
        if (!within(room, 1, 999) || !within(covered, 0, 1)) {
            return BAD;
        }
        if (grounds.count >= Grounds.MOST) {
            return FULL;
        }
        return grounds.add(room, covered == 1);
    }

    public int walk(int a, int b, int minutes) {
        if (!grounds.has(a) || !grounds.has(b) || a == b || !within(minutes, 0, 60)) {
            return BAD;
        }
        return grounds.setWalk(a, b, minutes);
    }

    public int way(int a, int b) {
        if (!grounds.has(a) || !grounds.has(b)) {
            return BAD;
        }
        int minutes = grounds.minutesBetween(a, b);
        return minutes >= Grounds.FAR ? NO_WAY : minutes;
    }

    public int rain(int from, int to) {
        if (from < minute || to <= from || to > MINUTES) {
            return BAD;
        }
        if (sky.spans >= Sky.MOST) {
            return FULL;
        }
        return sky.add(from, to);
    }

    // ---- parties

    public int sell(int a, int b) {
        if (!within(a, 0, TICKETS - 1) || !within(b, a, TICKETS - 1)) {
            return BAD;
        }
        int fresh = 0;
        for (int ticket = a; ticket <= b; ticket++) {
            if (!sold[ticket]) {
                sold[ticket] = true;
                fresh++;
            }
        }
        return fresh;
    }

    public int enter(int ticket, int heads) {
        if (!within(ticket, 0, TICKETS - 1) || !within(heads, 1, 20)) {
            return BAD;
        }
        if (!sold[ticket] || grounds.count == 0) {
            return NOT;
        }
        if (guests.showsTwice(ticket)) {
            forged++;
            return FORGED;
        }
        if (guests.count >= Guests.MOST) {
            return FULL;
        }
        Party p = guests.add(ticket, heads, minute);
        settle(p, GATE);
        p.paid = worth(prices.latest(ENTRY, night, night), p, 0);
        takings += p.paid;
        return p.number;
    }

    public int go(int party, int place) {
        if (!guests.has(party) || !grounds.has(place)) {
            return BAD;
        }
        Party p = guests.all[party];
        if (p.state != Party.AT || p.place == place) {
            return NOT;
        }
        int minutes = grounds.minutesBetween(p.place, place);
        if (minutes >= Grounds.FAR) {
            return NO_WAY;
        }
        setOff(p, place, minutes);
        return minutes;
    }

    public int leave(int party) {
        if (!guests.has(party)) {
            return BAD;
        }
        Party p = guests.all[party];
        if (p.state != Party.AT || p.place != GATE) {
            return NOT;
        }
        return showOut(p);
    }

    public int party(int party, int what) {
        return guests.has(party) ? guests.all[party].tell(what) : BAD;
    }

    public int heads(int place) {
        return grounds.has(place) ? guests.headsAt(place) : BAD;
    }

    public int minutes(int n) {
        if (!within(n, 1, 60) || minute + n >= MINUTES) {
            return BAD;
        }
        for (int i = 0; i < n; i++) {
            boolean wasWet = sky.rains(minute);
            minute++;
            watch.shot = minute;
            seatArrivals();
            if (!wasWet && sky.rains(minute)) {
                seekShelter();
            }
            serveOrders();
            crush += overcrowding();
            // The picture of this minute is taken: what calls do from here on shows in the next one.
            watch.shot = minute + 1;
        }
        return minute;
    }

    // ---- lamps

    public int lamp(int oil) {
        if (!within(oil, 1, 480)) {
            return BAD;
        }
        return lamps.count >= Lamps.MOST ? FULL : lamps.hang(oil);
    }

    public int fuse(int a, int b, int length) {
        if (!lamps.has(a) || !lamps.has(b) || a == b || !within(length, 1, 999)) {
            return BAD;
        }
        return lamps.fuses >= Lamps.MOST_FUSES ? FULL : lamps.join(a, b, length);
    }

    public int light(int a, int b) {
        if (!lamps.has(a) || b != -1 && !lamps.has(b)) {
            return BAD;
        }
        return lamps.kindle(a, b == -1 ? a : b, minute);
    }

    public int burns(int lamp) {
        if (!lamps.has(lamp)) {
            return BAD;
        }
        return lamps.isLit(lamp) ? lamps.second[lamp] : NOT;
    }

    public int dark() {
        return lamps.unlit();
    }

    public int spent() {
        return lamps.burntOut(minute);
    }

    public int best(int lighters) {
        if (!within(lighters, 1, 2)) {
            return BAD;
        }
        return lamps.count < lighters ? NOT : lamps.bestStart(lighters);
    }

    // ---- boxes

    public int box(int place, int seats) {
        if (!grounds.has(place) || !within(seats, 1, 20)) {
            return BAD;
        }
        return boxes.count >= Boxes.MOST ? FULL : boxes.add(place, seats);
    }

    public int let(int box, int party) {
        if (!boxes.has(box) || !guests.has(party)) {
            return BAD;
        }
        Party p = guests.all[party];
        boolean fits = p.state == Party.AT && p.place == boxes.place[box]
            && p.box == Boxes.NONE && p.heads <= boxes.seats[box];
        if (boxes.guest[box] != Boxes.NOBODY || !fits) {
            return NOT;
        }
        boxes.guest[box] = party;
        p.box = box;
        return 1;
    }

    public int rise(int party) {
        if (!guests.has(party)) {
            return BAD;
        }
        Party p = guests.all[party];
        int box = p.box;
        if (box == Boxes.NONE) {
            return NOT;
        }
        quitBox(p);
        return box;
    }

    public int in(int box) {
        if (!boxes.has(box)) {
            return BAD;
        }
        return boxes.guest[box] == Boxes.NOBODY ? NOT : boxes.guest[box];
    }

    public int ham(int grams) {
        if (!within(grams, 1, 9999)) {
            return BAD;
        }
        if (kitchen.grams + grams > Kitchen.MOST_GRAMS) {
            return FULL;
        }
        kitchen.grams += grams;
        return kitchen.grams;
    }

    public int rule(int what, int v) {
        if (what == 0 && within(v, 5, 99)) {
            int before = kitchen.slice;
            kitchen.slice = v;
            return before;
        }
        if (what == 1 && within(v, 0, 9)) {
            int before = kitchen.waiters;
            kitchen.waiters = v;
            return before;
        }
        return BAD;
    }

    public int order(int party, int slices) {
        if (!guests.has(party) || !within(slices, 1, 99)) {
            return BAD;
        }
        if (guests.all[party].box == Boxes.NONE) {
            return NOT;
        }
        return kitchen.orders >= Kitchen.MOST_ORDERS ? FULL : kitchen.append(party, slices, false);
    }

    // ---- prices

    public int feed(int n, int v) {
        if (!within(n, 1, 4)) {
            return BAD;
        }
        return prices.tape + n > Prices.LONGEST ? FULL : prices.write(n, v);
    }

    public int price(int kind, int from) {
        if (!within(kind, ENTRY, REFUND) || !within(from, 0, NIGHTS - 1)) {
            return BAD;
        }
        return prices.count >= Prices.MOST ? FULL : prices.make(kind, from, night);
    }

    public int inForce(int kind, int night, int k) {
        if (!within(kind, ENTRY, REFUND) || !within(night, 0, NIGHTS - 1) || !within(k, 0, NIGHTS - 1)) {
            return BAD;
        }
        int price = prices.latest(kind, night, k);
        return price == Prices.NONE ? NOT : price;
    }

    public int gives(int price, int party, int slices) {
        if (!prices.has(price) || !guests.has(party) || !within(slices, 0, 99)) {
            return VOID;
        }
        return worth(price, guests.all[party], slices);
    }

    // ---- nights

    public int close() {
        if (night >= NIGHTS - 1) {
            return NOT;
        }
        for (int i = 0; i < guests.count; i++) {
            if (guests.all[i].isIn()) {
                showOut(guests.all[i]);
            }
        }
        int taken = takings;
        ledger.keep(taken, sky.wetMinutes(0, minute), guests.headsThatCame());
        night++;
        beginNight();
        return taken;
    }

    public int night(int night, int what) {
        if (!within(night, 0, ledger.count - 1)) {
            return VOID;
        }
        switch (what) {
            case 0: return ledger.takings[night];
            case 1: return ledger.rain[night];
            case 2: return ledger.heads[night];
            default: return VOID;
        }
    }

    public int foretold(int rain) {
        return within(rain, 0, 480) && ledger.count > 0 ? ledger.meanNearest(rain) : VOID;
    }

    public int stolen(int minute, int place) {
        if (!within(minute, 0, this.minute) || !grounds.has(place)) {
            return BAD;
        }
        return watch.thefts >= Watch.MOST_THEFTS ? FULL : watch.tell(minute, place);
    }

    public int near(int i) {
        return within(i, 0, watch.thefts - 1) ? watch.witnesses(i) : BAD;
    }

    public int doubt(int party) {
        return guests.has(party) ? watch.suspicion(party) : BAD;
    }

    public int count(int what) {
        switch (what) {
            case 0: return grounds.count;
            case 1: return guests.count;
            case 2: return guests.headsIn();
            case 3: return lamps.count;
            case 4: return lamps.fuses;
            case 5: return boxes.count;
            case 6: return kitchen.orders;
            case 7: return kitchen.grams;
            case 8: return prices.count;
            case 9: return night;
            case 10: return minute;
            case 11: return prices.tape;
            case 12: return forged;
            case 13: return crush;
            case 14: return takings;
            case 15: return kitchen.served;
            default: return BAD;
        }
    }

    // ---- what several calls share

    private static boolean within(int value, int least, int most) {
        return value >= least && value <= most;
    }

    private void settle(Party p, int place) {
        p.state = Party.AT;
        p.place = place;
        p.due = -1;
        p.stay = watch.openStay(p.number, place);
    }

    private void setOff(Party p, int place, int minutes) {
        quitBox(p);
        watch.endStay(p.stay);
        if (minutes == 0) {
            settle(p, place);
            return;
        }
        p.state = Party.WALKS;
        p.place = place;
        p.due = minute + minutes;
    }

    private int showOut(Party p) {
        // The price is asked while the party is still in: its own heads count for it.
        int refund = worth(prices.latest(REFUND, night, night), p, 0);
        takings -= refund;
        p.refund = refund;
        quitBox(p);
        if (p.state == Party.AT) {
            watch.endStay(p.stay);
        }
        p.state = Party.OUT;
        p.place = -1;
        p.due = -1;
        return refund;
    }

    private void quitBox(Party p) {
        if (boxes.has(p.box)) {
            boxes.guest[p.box] = Boxes.NOBODY;
            p.box = Boxes.NONE;
            kitchen.dropOrdersOf(p.number);
        }
    }

    private void seatArrivals() {
        for (int i = 0; i < guests.count; i++) {
            Party p = guests.all[i];
            if (p.state == Party.WALKS && p.due <= minute) {
                settle(p, p.place);
            }
        }
    }

    private void seekShelter() {
        for (int i = 0; i < guests.count; i++) {
            Party p = guests.all[i];
            boolean exposed = p.state == Party.AT && p.box == Boxes.NONE && grounds.isOpen(p.place);
            int shelter = exposed ? grounds.nearestShelter(p.place) : Grounds.NONE;
            if (shelter != Grounds.NONE) {
                setOff(p, shelter, grounds.minutesBetween(p.place, shelter));
            }
        }
    }

    private void serveOrders() {
        int price = prices.latest(SLICES, night, night);
        // Fixed ahead of the loop: an order put back at the row's end is not looked at again.
        int looks = Math.min(kitchen.waiters, kitchen.orders);
        for (int i = 0; i < looks; i++) {
            int party = kitchen.party[0];
            int slices = kitchen.slices[0];
            if (kitchen.serveFirst() && guests.has(party)) {
                Party p = guests.all[party];
                int paid = worth(price, p, slices);
                p.slices += slices;
                p.paid += paid;
                takings += paid;
            }
        }
    }

    private int overcrowding() {
        int sum = 0;
        for (int place = 0; place < grounds.count; place++) {
            sum += Math.max(0, guests.headsAt(place) - grounds.room[place]);
        }
        return sum;
    }

    private int worth(int price, Party p, int slices) {
        if (!prices.has(price)) {
            return 0;
        }
        int[] names = prices.reader.names;
        names[Reader.HEADS] = p.heads;
        names[Reader.MINUTE] = minute;
        names[Reader.RAINS] = sky.rains(minute) ? 1 : 0;
        names[Reader.NIGHT] = night;
        names[Reader.WET] = sky.wetMinutes(p.came, minute);
        names[Reader.SLICES] = slices;
        names[Reader.CROWD] = guests.headsIn();
        names[Reader.STAYED] = minute - p.came;
        return prices.read(price);
    }

    private void beginNight() {
        minute = 0;
        crush = 0;
        takings = 0;
        sky.clear();
        guests.count = 0;
        kitchen.orders = 0;
        lamps.putOut();
        watch.clear();
    }

    /** Places, the walks between them and the shortest ways by these. */
    private static final class Grounds {
        static final int MOST = 16, FAR = 1000000, NONE = -1;

        int count = 0;
        final int[] room = new int[MOST];
        final boolean[] covered = new boolean[MOST];
        final int[][] walks = new int[MOST][MOST];
        final int[][] ways = new int[MOST][MOST];

        Grounds() {
            measure();
        }

        boolean has(int place) {
            return place >= 0 && place < count;
        }

        int add(int size, boolean roofed) {
            room[count] = size;
            covered[count] = roofed;
            count++;
            return count - 1;
        }

        int setWalk(int a, int b, int minutes) {
            int before = walks[a][b];
            walks[a][b] = minutes;
            walks[b][a] = minutes;
            measure();
            return before;
        }

        private void measure() {
            for (int a = 0; a < MOST; a++) {
                for (int b = 0; b < MOST; b++) {
                    int direct = walks[a][b] == 0 ? FAR : walks[a][b];
                    ways[a][b] = a == b ? 0 : direct;
                }
            }
            for (int via = 0; via < count; via++) {
                for (int a = 0; a < count; a++) {
                    for (int b = 0; b < count; b++) {
                        ways[a][b] = Math.min(ways[a][b], ways[a][via] + ways[via][b]);
                    }
                }
            }
        }

        /** The way's minutes; FAR or more if there is none. */
        int minutesBetween(int a, int b) {
            return has(a) && has(b) ? ways[a][b] : FAR;
        }

        boolean isOpen(int place) {
            return has(place) && !covered[place];
        }

        int nearestShelter(int from) {
            int best = NONE;
            int least = FAR;
            for (int place = GATE + 1; place < count; place++) {
                int minutes = minutesBetween(from, place);
                if (covered[place] && minutes < least) {
                    least = minutes;
                    best = place;
                }
            }
            return best;
        }
    }

    /** The rain of this night. */
    private static final class Sky {
        static final int MOST = 20;

        int spans = 0;
        final boolean[] wet = new boolean[MINUTES];

        int add(int from, int to) {
            for (int minute = from; minute < to; minute++) {
                wet[minute] = true;
            }
            spans++;
            return spans;
        }

        boolean rains(int minute) {
            return within(minute, 0, MINUTES - 1) && wet[minute];
        }

        int wetMinutes(int first, int last) {
            int sum = 0;
            for (int minute = first; minute <= last; minute++) {
                sum += rains(minute) ? 1 : 0;
            }
            return sum;
        }

        void clear() {
            spans = 0;
            for (int minute = 0; minute < MINUTES; minute++) {
                wet[minute] = false;
            }
        }
    }

    /** One party of this night; the objects are used again on the next. */
    private static final class Party {
        static final int AT = 0, WALKS = 1, OUT = 2;

        final int number;
        int heads = 0;
        int ticket = 0;
        int state = OUT;
        int place = -1;
        int due = -1;
        int box = Boxes.NONE;
        int paid = 0;
        int refund = 0;
        int slices = 0;
        int came = 0;
        int stay = Watch.NO_STAY;

        Party(int number) {
            this.number = number;
        }

        void begin(int shownTicket, int size, int minute) {
            ticket = shownTicket;
            heads = size;
            came = minute;
            box = Boxes.NONE;
            paid = 0;
            refund = 0;
            slices = 0;
        }

        boolean isIn() {
            return state != OUT;
        }

        int tell(int what) {
            switch (what) {
                case 0: return heads;
                case 1: return ticket;
                case 2: return state;
                case 3: return place;
                case 4: return due;
                case 5: return box;
                case 6: return paid;
                case 7: return refund;
                case 8: return slices;
                case 9: return came;
                default: return BAD;
            }
        }
    }

    /** The parties of this night, as they came. */
    private static final class Guests {
        static final int MOST = 100;

        int count = 0;
        final Party[] all = new Party[MOST];

        Guests() {
            for (int i = 0; i < MOST; i++) {
                all[i] = new Party(i);
            }
        }

        boolean has(int party) {
            return party >= 0 && party < count;
        }

        Party add(int ticket, int heads, int minute) {
            Party p = all[count];
            p.begin(ticket, heads, minute);
            count++;
            return p;
        }

        boolean showsTwice(int ticket) {
            for (int i = 0; i < count; i++) {
                if (all[i].isIn() && all[i].ticket == ticket) {
                    return true;
                }
            }
            return false;
        }

        int headsAt(int place) {
            int sum = 0;
            for (int i = 0; i < count; i++) {
                if (all[i].state == Party.AT && all[i].place == place) {
                    sum += all[i].heads;
                }
            }
            return sum;
        }

        int headsIn() {
            int sum = 0;
            for (int i = 0; i < count; i++) {
                if (all[i].isIn()) {
                    sum += all[i].heads;
                }
            }
            return sum;
        }

        int headsThatCame() {
            int sum = 0;
            for (int i = 0; i < count; i++) {
                sum += all[i].heads;
            }
            return sum;
        }
    }

    /**
     * Who was where when each minute had gone by, and the thefts told.
     * Each minute ends with a picture of who is at what place; a stay keeps the first picture
     * that shows it and the first later one that does not, so that no picture need be stored.
     */
    private static final class Watch {
        static final int MOST_THEFTS = 20, NO_STAY = -1;
        // A stay begins by enter, by go, or by rain behind one of these: 512 calls make no more than 1024.
        static final int MOST_STAYS = 1040;
        static final int STILL_THERE = MINUTES;

        /** The picture in which what happens now will show first; in minute 0 that is its own. */
        int shot = 0;
        int stays = 0;
        final int[] who = new int[MOST_STAYS];
        final int[] where = new int[MOST_STAYS];
        final int[] from = new int[MOST_STAYS];
        final int[] until = new int[MOST_STAYS];
        int thefts = 0;
        final int[] theftMinute = new int[MOST_THEFTS];
        final int[] theftPlace = new int[MOST_THEFTS];

        int openStay(int party, int place) {
            if (stays >= MOST_STAYS) {
                return NO_STAY;
            }
            who[stays] = party;
            where[stays] = place;
            from[stays] = shot;
            until[stays] = STILL_THERE;
            stays++;
            return stays - 1;
        }

        void endStay(int stay) {
            if (stay >= 0 && stay < stays) {
                until[stay] = shot;
            }
        }

        int tell(int minute, int place) {
            theftMinute[thefts] = minute;
            theftPlace[thefts] = place;
            thefts++;
            return thefts;
        }

        int witnesses(int theft) {
            int sum = 0;
            for (int stay = 0; stay < stays; stay++) {
                sum += saw(stay, theft) ? 1 : 0;
            }
            return sum;
        }

        int suspicion(int party) {
            int sum = 0;
            for (int theft = 0; theft < thefts; theft++) {
                for (int stay = 0; stay < stays; stay++) {
                    sum += who[stay] == party && saw(stay, theft) ? 1 : 0;
                }
            }
            return sum;
        }

        private boolean saw(int stay, int theft) {
            int minute = theftMinute[theft];
            return where[stay] == theftPlace[theft] && from[stay] <= minute && minute < until[stay];
        }

        void clear() {
            shot = 0;
            stays = 0;
            thefts = 0;
        }
    }

    /** Lamps, the shortest rows of fuses between them, and the latest light of this night. */
    private static final class Lamps {
        static final int MOST = 40, MOST_FUSES = 80, FAR = 10000000, NEVER = -1;
        // Above every LAST: 39 fuses of 999 burn for less than 4000 seconds.
        private static final int DARK_WEIGHT = 10000;

        int count = 0;
        int fuses = 0;
        int litAt = NEVER;
        final int[] oil = new int[MOST];
        final int[] second = new int[MOST];
        final int[][] rows = new int[MOST][MOST];

        Lamps() {
            for (int a = 0; a < MOST; a++) {
                for (int b = 0; b < MOST; b++) {
                    rows[a][b] = a == b ? 0 : FAR;
                }
            }
        }

        boolean has(int lamp) {
            return lamp >= 0 && lamp < count;
        }

        int hang(int minutes) {
            oil[count] = minutes;
            second[count] = NEVER;
            count++;
            return count - 1;
        }

        /** Fuses are never taken away, so a new one only shortens rows that lead through it. */
        int join(int a, int b, int length) {
            for (int i = 0; i < count; i++) {
                for (int j = 0; j < count; j++) {
                    int onward = rows[i][a] + length + rows[b][j];
                    int back = rows[i][b] + length + rows[a][j];
                    rows[i][j] = Math.min(rows[i][j], Math.min(onward, back));
                }
            }
            fuses++;
            return fuses;
        }

        private int secondOf(int lamp, int a, int b) {
            int row = Math.min(rows[a][lamp], rows[b][lamp]);
            return row >= FAR ? NEVER : (row + 9) / 10;
        }

        int kindle(int a, int b, int minute) {
            int last = 0;
            for (int lamp = 0; lamp < count; lamp++) {
                second[lamp] = secondOf(lamp, a, b);
                last = Math.max(last, second[lamp]);
            }
            litAt = minute;
            return last;
        }

        boolean isLit(int lamp) {
            return litAt != NEVER && second[lamp] != NEVER;
        }

        int unlit() {
            int sum = 0;
            for (int lamp = 0; lamp < count; lamp++) {
                sum += isLit(lamp) ? 0 : 1;
            }
            return sum;
        }

        int burntOut(int minute) {
            int sum = 0;
            for (int lamp = 0; lamp < count; lamp++) {
                sum += isLit(lamp) && minute - litAt >= oil[lamp] ? 1 : 0;
            }
            return sum;
        }

        int bestStart(int lighters) {
            int best = NEVER;
            int least = FAR;
            for (int a = 0; a < count; a++) {
                int first = lighters == 1 ? a : a + 1;
                int end = lighters == 1 ? a + 1 : count;
                for (int b = first; b < end; b++) {
                    int cost = costOf(a, b);
                    if (cost < least) {
                        least = cost;
                        best = 100 * a + (lighters == 1 ? 99 : b);
                    }
                }
            }
            return best;
        }

        private int costOf(int a, int b) {
            int last = 0;
            int unlit = 0;
            for (int lamp = 0; lamp < count; lamp++) {
                int when = secondOf(lamp, a, b);
                last = Math.max(last, when);
                unlit += when == NEVER ? 1 : 0;
            }
            return unlit * DARK_WEIGHT + last;
        }

        void putOut() {
            litAt = NEVER;
        }
    }

    /** Boxes and who sits in them. */
    private static final class Boxes {
        static final int MOST = 20, NOBODY = -1, NONE = -1;

        int count = 0;
        final int[] place = new int[MOST];
        final int[] seats = new int[MOST];
        final int[] guest = new int[MOST];

        boolean has(int box) {
            return box >= 0 && box < count;
        }

        int add(int site, int size) {
            place[count] = site;
            seats[count] = size;
            guest[count] = NOBODY;
            count++;
            return count - 1;
        }
    }

    /** The hams, how they are sliced, and the orders in their row. */
    private static final class Kitchen {
        static final int MOST_GRAMS = 99999, MOST_ORDERS = 60;

        int grams = 0;
        int slice = 10;
        int waiters = 1;
        int served = 0;
        int orders = 0;
        final int[] party = new int[MOST_ORDERS];
        final int[] slices = new int[MOST_ORDERS];
        final boolean[] lacking = new boolean[MOST_ORDERS];

        int append(int who, int amount, boolean lackedOnce) {
            party[orders] = who;
            slices[orders] = amount;
            lacking[orders] = lackedOnce;
            orders++;
            return orders;
        }

        /** Takes the row's first order; false if there was not enough ham for it. */
        boolean serveFirst() {
            int who = party[0];
            int amount = slices[0];
            boolean lackedOnce = lacking[0];
            int wanted = amount * slice;
            removeFirst();
            if (wanted <= grams) {
                grams -= wanted;
                served += amount;
                return true;
            }
            if (!lackedOnce) {
                append(who, amount, true);
            }
            return false;
        }

        private void removeFirst() {
            orders--;
            for (int i = 0; i < orders; i++) {
                move(i + 1, i);
            }
        }

        void dropOrdersOf(int who) {
            int kept = 0;
            for (int i = 0; i < orders; i++) {
                if (party[i] != who) {
                    move(i, kept);
                    kept++;
                }
            }
            orders = kept;
        }

        private void move(int from, int to) {
            party[to] = party[from];
            slices[to] = slices[from];
            lacking[to] = lacking[from];
        }
    }

    /** The prices made, and the tape. */
    private static final class Prices {
        static final int MOST = 30, LONGEST = 120, NONE = -1;
        private static final int FAULTY = -100, DEAREST = 100000;

        int count = 0;
        int tape = 0;
        /** A row of bytes for each price; the tape is the row behind the last one. */
        final byte[] bytes = new byte[(MOST + 1) * LONGEST];
        final int[] length = new int[MOST];
        final int[] kind = new int[MOST];
        final int[] from = new int[MOST];
        final int[] made = new int[MOST];
        final Reader reader = new Reader();

        boolean has(int price) {
            return price >= 0 && price < count;
        }

        int write(int n, int v) {
            for (int i = 0; i < n; i++) {
                bytes[count * LONGEST + tape] = (byte) (v >> (8 * i));
                tape++;
            }
            return tape;
        }

        int make(int ofKind, int fromNight, int night) {
            reader.valueOf(bytes, count * LONGEST, tape);
            int size = tape;
            tape = 0;
            if (reader.fault != Reader.FAULTLESS) {
                return FAULTY - reader.fault;
            }
            length[count] = size;
            kind[count] = ofKind;
            from[count] = fromNight;
            made[count] = night;
            count++;
            return count - 1;
        }

        int latest(int ofKind, int night, int known) {
            for (int i = count - 1; i >= 0; i--) {
                if (kind[i] == ofKind && made[i] <= known && from[i] <= night) {
                    return i;
                }
            }
            return NONE;
        }

        int read(int price) {
            int value = reader.valueOf(bytes, price * LONGEST, length[price]);
            return Math.max(0, Math.min(DEAREST, value));
        }
    }

    /** Reads a text: finds its fault, or what it gives. */
    private static final class Reader {
        static final int HEADS = 0, MINUTE = 1, RAINS = 2, NIGHT = 3, WET = 4, SLICES = 5, CROWD = 6, STAYED = 7;
        static final int FAULTLESS = -1;
        /** Each name stands where its value stands in names. */
        private static final String LETTERS = "pmrngsct";
        private static final int END = -1, DEEPEST = 8, MOST_DIGITS = 5;
        private static final int COMPARES = 0, MULTIPLIES = 2;

        final int[] names = new int[8];
        int fault = FAULTLESS;
        private byte[] text = new byte[0];
        private int start = 0;
        private int end = 0;
        private int at = 0;

        int valueOf(byte[] bytes, int first, int length) {
            text = bytes;
            start = first;
            end = Math.min(first + length, bytes.length);
            at = first;
            fault = FAULTLESS;
            int answer = 0;
            boolean settled = false;
            boolean more = true;
            for (int clause = 0; more && clause <= Prices.LONGEST; clause++) {
                int value = expression(COMPARES, 0);
                boolean counts = true;
                if (take(':')) {
                    counts = value != 0;
                    value = expression(COMPARES, 0);
                }
                if (counts && !settled) {
                    settled = true;
                    answer = value;
                }
                more = take(';');
            }
            if (at < end) {
                fail();
            }
            return answer;
        }

        /** The byte that comes next; behind a fault nothing comes, so that all reading ends. */
        private int next() {
            return fault != FAULTLESS || at >= end ? END : text[at] & 255;
        }

        private boolean take(char sign) {
            if (next() != sign) {
                return false;
            }
            at++;
            return true;
        }

        private void fail() {
            if (fault == FAULTLESS) {
                fault = at - start;
            }
        }

        /** Level 0 compares (once), 1 adds, 2 multiplies; below these is the operand. */
        private int expression(int level, int depth) {
            if (level > MULTIPLIES) {
                return operand(depth);
            }
            int value = expression(level + 1, depth);
            int most = level == COMPARES ? 1 : Prices.LONGEST;
            for (int i = 0; i < most && levelOf(next()) == level; i++) {
                int sign = next();
                at++;
                value = joined(value, sign, expression(level + 1, depth));
            }
            return value;
        }

        private int operand(int depth) {
            if (depth < DEEPEST && take('(')) {
                int value = expression(COMPARES, depth + 1);
                if (!take(')')) {
                    fail();
                }
                return value;
            }
            int sign = next();
            if (isDigit(sign)) {
                return number();
            }
            int name = sign == END ? END : LETTERS.indexOf((char) sign);
            if (name < 0 || name >= names.length) {
                fail();
                return 0;
            }
            at++;
            return names[name];
        }

        private int number() {
            int value = 0;
            for (int digits = 0; digits < MOST_DIGITS && isDigit(next()); digits++) {
                value = value * 10 + next() - '0';
                at++;
            }
            return value;
        }

        private static boolean isDigit(int sign) {
            return sign >= '0' && sign <= '9';
        }

        private static int levelOf(int sign) {
            switch (sign) {
                case '<': case '=': case '>': return 0;
                case '+': case '-': return 1;
                case '*': case '/': return 2;
                default: return -1;
            }
        }

        private static int joined(int a, int sign, int b) {
            switch (sign) {
                case '<': return a < b ? 1 : 0;
                case '=': return a == b ? 1 : 0;
                case '>': return a > b ? 1 : 0;
                case '+': return a + b;
                case '-': return a - b;
                case '*': return a * b;
                default: return b == 0 ? 0 : a / b;
            }
        }
    }

    /** What is kept of the closed nights. */
    private static final class Ledger {
        int count = 0;
        final int[] takings = new int[NIGHTS];
        final int[] rain = new int[NIGHTS];
        final int[] heads = new int[NIGHTS];

        void keep(int taken, int wetMinutes, int came) {
            if (count < NIGHTS) {
                takings[count] = taken;
                rain[count] = wetMinutes;
                heads[count] = came;
                count++;
            }
        }

        int meanNearest(int wetMinutes) {
            int least = MINUTES + 1;
            long sum = 0;
            int alike = 0;
            for (int i = 0; i < count; i++) {
                int gap = Math.abs(rain[i] - wetMinutes);
                if (gap < least) {
                    least = gap;
                    sum = 0;
                    alike = 0;
                }
                if (gap == least) {
                    sum += takings[i];
                    alike++;
                }
            }
            return alike == 0 ? VOID : (int) Math.floorDiv(sum, (long) alike);
        }
    }
}
