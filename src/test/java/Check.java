/** Compares answers with those that are due, and tells at the end how it went. */
final class Check {
    private int calls = 0;
    private int wrong = 0;

    void due(String call, long got, long want) {
        calls++;
        if (got != want) {
            wrong++;
            System.out.println(call + " answered " + got + ", due is " + want);
        }
    }

    boolean allRight() {
        return wrong == 0;
    }

    void finish() {
        System.out.println(calls + " answers looked at, " + wrong + " not as due");
        if (wrong != 0) {
            System.exit(1);
        }
    }

    /** Feeds a text to the tape, four bytes a call; false if the tape refused one. */
    static boolean feed(PleasureGarden x, String text) {
        for (int i = 0; i < text.length(); i += 4) {
            int n = Math.min(4, text.length() - i);
            if (x.feed(n, packed(text, i, n)) < 0) {
                return false;
            }
        }
        return true;
    }

    /** n bytes of a text as feed takes them: the first one lowest. */
    static int packed(String text, int from, int n) {
        int v = 0;
        for (int i = 0; i < n; i++) {
            v |= (text.charAt(from + i) & 255) << (8 * i);
        }
        return v;
    }

    static int price(PleasureGarden x, int kind, int from, String text) {
        feed(x, text);
        return x.price(kind, from);
    }

    static PleasureGarden garden(int... roomAndCover) {
        PleasureGarden x = new PleasureGarden();
        for (int i = 0; i + 1 < roomAndCover.length; i += 2) {
            x.place(roomAndCover[i], roomAndCover[i + 1]);
        }
        x.sell(0, 299);
        return x;
    }
}
