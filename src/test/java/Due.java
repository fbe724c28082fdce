/** Counts answers that are not the ones due, and makes the calls that every test needs. */
final class Due {
    static final int NONE = AsManyAsCame.NONE, BAD = AsManyAsCame.BAD;
    static final int STATE = AsManyAsCame.STATE, FULL = AsManyAsCame.FULL;
    static final int NULL = -1000011, PLACE = -1000012, KIND = -1000013, SIZE = -1000014, STORE = -1000015;

    private final String test;
    private int looked = 0;
    private int wrong = 0;

    Due(String test) {
        this.test = test;
    }

    void is(String call, long got, long want) {
        looked++;
        if (got != want) {
            wrong++;
            if (wrong <= 40) {
                System.out.println(test + ": " + call + " answered " + got + ", due is " + want);
            }
        }
    }

    /** The answers of a list of calls, in order. */
    void are(String calls, int[] got, int... want) {
        is(calls + ": how many", got.length, want.length);
        for (int i = 0; i < Math.min(got.length, want.length); i++) {
            is(calls + " #" + i, got[i], want[i]);
        }
    }

    void end() {
        System.out.println(test + ": " + looked + " answers, " + wrong + " not as due");
        if (wrong != 0) {
            System.exit(1);
        }
    }

    /** Feeds a text, of characters 0 to 255, eight bytes at a time. */
    static int feed(AsManyAsCame x, String text) {
        int answer = 0;
        for (int i = 0; i < text.length(); i += 8) {
            int n = Math.min(8, text.length() - i);
            long w = 0;
            for (int k = 0; k < n; k++) {
                w = w << 8 | text.charAt(i + k) & 255;
            }
            answer = x.feed(w, n);
        }
        return answer;
    }

    static int read(AsManyAsCame x, String text) {
        feed(x, text);
        return x.town();
    }

    static AsManyAsCame of(String text) {
        AsManyAsCame x = new AsManyAsCame();
        if (read(x, text) < 0) {
            throw new IllegalStateException("the test's own text has a fault: " + text);
        }
        return x;
    }

    static void fill(AsManyAsCame x, int row, int lane, int... items) {
        x.row(row, lane, items.length);
        for (int i = 0; i < items.length; i++) {
            x.set(row, i, items[i]);
        }
    }

    static int[] trace(AsManyAsCame x) {
        int n = 0;
        while (x.trace(n) != NONE) {
            n++;
        }
        int[] all = new int[n];
        for (int i = 0; i < n; i++) {
            all[i] = x.trace(i);
        }
        return all;
    }

    static int[] counts(AsManyAsCame x) {
        int[] all = new int[9];
        for (int i = 0; i < 9; i++) {
            all[i] = x.count(i);
        }
        return all;
    }

    static int[] places(AsManyAsCame x, int what) {
        int[] all = new int[x.count(1)];
        for (int i = 0; i < all.length; i++) {
            all[i] = x.person(i, what);
        }
        return all;
    }

    /** So many items, of a pattern again and again. */
    static int[] repeated(int items, int... pattern) {
        int[] all = new int[items];
        for (int i = 0; i < items; i++) {
            all[i] = pattern[i % pattern.length];
        }
        return all;
    }

    /** First so many of one item, then so many of another. */
    static int[] twoParts(int n, int first, int m, int second) {
        int[] all = new int[n + m];
        for (int i = 0; i < all.length; i++) {
            all[i] = i < n ? first : second;
        }
        return all;
    }

    static String many(String person, int n) {
        return person.repeat(n);
    }
}
