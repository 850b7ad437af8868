/** Long runs of calls, made by a fixed rule, on the class and on the model side by side. */
public final class ModelTest {
    private static final String[] NAMES = {"place", "walk", "way", "rain", "sell", "enter", "go", "leave", "party",
        "heads", "minutes", "lamp", "fuse", "light", "burns", "dark", "spent", "best", "box", "let", "rise", "in",
        "ham", "rule", "order", "feed", "price", "inForce", "gives", "close", "night", "foretold", "stolen", "near",
        "doubt", "count"};
    /** How often each call is made, beside the others; a row for each flavour of run. */
    private static final int[][] WEIGHTS = {
        {2, 3, 2, 1, 1, 8, 8, 3, 6, 2, 6, 1, 1, 1, 1, 1, 1, 1, 2, 5, 2, 2, 2, 1, 5, 2, 2, 1, 3, 1, 1, 1, 2, 2, 2, 4},
        {2, 4, 3, 4, 1, 9, 9, 2, 9, 4, 9, 0, 0, 0, 0, 0, 0, 0, 1, 3, 1, 1, 1, 1, 2, 1, 1, 1, 3, 1, 2, 2, 5, 5, 5, 4},
        {0, 0, 0, 0, 0, 0, 0, 0, 0, 0, 2, 6, 9, 4, 6, 3, 3, 1, 0, 0, 0, 0, 0, 0, 0, 0, 0, 0, 0, 1, 0, 0, 0, 0, 0, 1},
        {1, 1, 0, 1, 1, 6, 1, 1, 3, 0, 5, 0, 0, 0, 0, 0, 0, 0, 3, 9, 1, 2, 4, 3, 16, 1, 2, 1, 4, 1, 1, 1, 1, 1, 1, 4},
        {1, 2, 0, 2, 1, 4, 3, 2, 2, 0, 3, 0, 0, 0, 0, 0, 0, 0, 1, 2, 1, 0, 1, 1, 2, 1, 9, 4, 9, 4, 3, 4, 0, 0, 0, 3},
        {1, 1, 0, 0, 1, 30, 3, 1, 1, 1, 2, 0, 0, 0, 0, 0, 0, 0, 1, 1, 0, 0, 1, 0, 1, 0, 1, 0, 1, 0, 0, 0, 1, 1, 1, 2}};

    /** As many as an object is used for; a text is fed only if all of it still fits. */
    private static final int CALLS = 512, LONGEST_FEED = 30;

    private final Check check = new Check();
    private long seed;
    private PleasureGarden real;
    private Model model;
    private final StringBuilder calls = new StringBuilder();
    private int made;

    public static void main(String[] args) {
        int runs = args.length > 0 ? Integer.parseInt(args[0]) : 300;
        ModelTest test = new ModelTest();
        for (int run = 0; run < runs && test.check.allRight(); run++) {
            test.run(run);
        }
        test.check.finish();
    }

    private int below(int bound) {
        seed = seed * 6364136223846793005L + 1442695040888963407L;
        return (int) ((seed >>> 33) % bound);
    }

    private void run(int number) {
        seed = number * 7919L + 17;
        below(2);
        real = new PleasureGarden();
        model = new Model();
        calls.setLength(0);
        made = 0;
        int[] weights = WEIGHTS[number % WEIGHTS.length];
        if (weights[0] > 0) {
            layOut();
        }
        while (made < CALLS && check.allRight()) {
            int method = pick(weights);
            if (method == 26 && below(4) > 0 && made + LONGEST_FEED < CALLS) {
                feedText();
            }
            int[] a = arguments(method);
            call(method, a[0], a[1], a[2]);
        }
        if (!check.allRight()) {
            System.out.println("run " + number + ":\n" + calls);
        }
    }

    private void layOut() {
        int places = 2 + below(6);
        for (int i = 0; i < places; i++) {
            call(0, 1 + below(below(2) == 0 ? 10 : 40), below(3) / 2, 0);
        }
        for (int i = 1; i < places; i++) {
            call(1, i, below(i), 1 + below(6));
        }
        call(4, 0, 20 + below(280), 0);
    }

    private int pick(int[] weights) {
        int sum = 0;
        for (int w : weights) {
            sum += w;
        }
        int left = below(sum);
        int method = 0;
        while (left >= weights[method]) {
            left -= weights[method];
            method++;
        }
        return method;
    }

    private void call(int method, int a, int b, int c) {
        made++;
        String told = NAMES[method] + "(" + a + ", " + b + ", " + c + ")";
        int want = model.call(method, a, b, c);
        calls.append(told).append(" = ").append(want).append('\n');
        check.due(told, onReal(method, a, b, c), want);
    }

    private void feedText() {
        String text = below(5) == 0 ? noise() : text();
        for (int i = 0; i < text.length(); i += 4) {
            int n = Math.min(4, text.length() - i);
            call(25, n, Check.packed(text, i, n), 0);
        }
    }

    private String noise() {
        String signs = "pmrngsct0123456789()()+-*/<=>:;";
        StringBuilder out = new StringBuilder();
        for (int i = below(20); i >= 0; i--) {
            out.append(signs.charAt(below(signs.length())));
        }
        return out.toString();
    }

    private String text() {
        StringBuilder out = new StringBuilder();
        for (int clause = below(3); clause >= 0; clause--) {
            if (below(2) == 0) {
                out.append(expression(2)).append(':');
            }
            out.append(expression(2)).append(clause > 0 ? ";" : "");
        }
        if (below(8) == 0) {
            out.setCharAt(below(out.length()), "p9(+:;<".charAt(below(7)));
        }
        return out.toString();
    }

    private String expression(int depth) {
        StringBuilder out = new StringBuilder();
        boolean compared = false;
        for (int i = below(3); i >= 0; i--) {
            int kind = below(6);
            if (depth > 0 && kind == 0) {
                out.append('(').append(expression(depth - 1)).append(')');
            } else if (kind < 3) {
                out.append(below(below(4) == 0 ? 100000 : 10));
            } else {
                out.append("pmrngsct".charAt(below(8)));
            }
            if (i > 0) {
                char sign = (compared ? "+-*/" : "+-*/<=>").charAt(below(compared ? 4 : 7));
                compared |= "<=>".indexOf(sign) >= 0;
                out.append(sign);
            }
        }
        return out.toString();
    }

    /** Mostly a number that stands for something, now and then one beside it. */
    private int some(int size) {
        return below(12) == 0 ? below(3) - 1 + (below(2) == 0 ? size : 0) : below(Math.max(1, size));
    }

    private int between(int least, int most) {
        return least + some(most - least + 1);
    }

    private int[] arguments(int method) {
        int places = model.places.size();
        int parties = model.guests.size();
        int lamps = model.lamps.size();
        int boxes = model.boxes.size();
        int now = model.minute;
        switch (method) {
            case 0: return row(between(1, 30), between(0, 1), 0);
            case 1: return row(some(places), some(places), below(4) == 0 ? 0 : between(1, below(8) == 0 ? 60 : 8));
            case 2: return row(some(places), some(places), 0);
            case 3: return rainSpan(now);
            case 4: return row(some(300), some(300), 0);
            case 5: return row(some(below(2) == 0 ? 300 : 30), between(1, below(2) == 0 ? 20 : 5), 0);
            case 6: return row(some(parties), some(places), 0);
            case 8: return row(some(parties), some(10), 0);
            case 10: return row(below(3) > 0 ? between(1, 4) : between(1, 60), 0, 0);
            case 11: return row(between(1, below(2) == 0 ? 480 : 40), 0, 0);
            case 12: return row(some(lamps), some(lamps), between(1, below(2) == 0 ? 999 : 40));
            case 13: return row(some(lamps), below(3) == 0 ? -1 : some(lamps), 0);
            case 14: return row(some(lamps), 0, 0);
            case 17: return row(between(1, 2), 0, 0);
            case 18: return row(some(places), between(1, 20), 0);
            case 19: return row(some(boxes), some(parties), 0);
            case 21: return row(some(boxes), 0, 0);
            case 22: return row(between(1, below(4) == 0 ? 9999 : 300), 0, 0);
            case 23: return below(2) == 0 ? row(0, between(5, 99), 0) : row(some(2), between(0, 9), 0);
            case 24: return row(below(2) == 0 ? seated() : some(parties), between(1, below(2) == 0 ? 99 : 9), 0);
            case 25: return row(between(1, 4), below(0x7fffffff) - below(0x7fffffff), 0);
            case 26: return row(some(3), below(3) == 0 ? some(200) : some(model.night + 3), 0);
            case 27: return row(some(3), some(below(2) == 0 ? 200 : 8), some(below(2) == 0 ? 200 : 8));
            case 28: return row(some(model.prices.size()), some(parties), some(100));
            case 30: return row(some(model.night), some(3), 0);
            case 31: return row(below(2) == 0 ? some(481) : some(30), 0, 0);
            case 32: return row(below(2) == 0 ? some(now + 1) : Math.max(0, now - below(3)), some(places), 0);
            case 33: return row(some(model.thefts.size()), 0, 0);
            case 35: return row(some(16), 0, 0);
            default: return row(some(method == 9 ? places : parties), 0, 0);
        }
    }

    private int[] rainSpan(int now) {
        int from = now + some(below(3) == 0 ? 60 : 6);
        return row(from, from + some(below(3) == 0 ? 200 : 6), 0);
    }

    private int seated() {
        for (Model.Box box : model.boxes) {
            if (box.guest >= 0 && below(2) == 0) {
                return box.guest;
            }
        }
        return 0;
    }

    private static int[] row(int a, int b, int c) {
        return new int[] {a, b, c};
    }

    private int onReal(int method, int a, int b, int c) {
        switch (method) {
            case 0: return real.place(a, b);
            case 1: return real.walk(a, b, c);
            case 2: return real.way(a, b);
            case 3: return real.rain(a, b);
            case 4: return real.sell(a, b);
            case 5: return real.enter(a, b);
            case 6: return real.go(a, b);
            case 7: return real.leave(a);
            case 8: return real.party(a, b);
            case 9: return real.heads(a);
            case 10: return real.minutes(a);
            case 11: return real.lamp(a);
            case 12: return real.fuse(a, b, c);
            case 13: return real.light(a, b);
            case 14: return real.burns(a);
            case 15: return real.dark();
            case 16: return real.spent();
            case 17: return real.best(a);
            case 18: return real.box(a, b);
            case 19: return real.let(a, b);
            case 20: return real.rise(a);
            case 21: return real.in(a);
            case 22: return real.ham(a);
            case 23: return real.rule(a, b);
            case 24: return real.order(a, b);
            case 25: return real.feed(a, b);
            case 26: return real.price(a, b);
            case 27: return real.inForce(a, b, c);
            case 28: return real.gives(a, b, c);
            case 29: return real.close();
            case 30: return real.night(a, b);
            case 31: return real.foretold(a);
            case 32: return real.stolen(a, b);
            case 33: return real.near(a);
            case 34: return real.doubt(a);
            default: return real.count(a);
        }
    }
}
