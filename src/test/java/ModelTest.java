/** Runs of calls whose arguments come of a counted sequence, answered by the class and by Model. */
final class ModelTest {
    private static final int RUNS = 1500, CALLS = 512;
    private static final String[] KINDS = {"pilgrim", "hired", "born", "smuggled", "called"};
    private static final String[] LAWS = {"list", "rank", "kind"};
    private static final String[] SCRAPS = {"person", "town", ";", " ", "\n", "1", "0999", "list", "born", "x", "?", ""};

    private static final Due due = new Due("ModelTest");
    private static long state = 1;

    private static AsManyAsCame x;
    private static Model model;
    private static int left;
    private static int run;

    public static void main(String[] args) {
        for (run = 0; run < RUNS; run++) {
            x = new AsManyAsCame();
            model = new Model();
            left = CALLS;
            while (left > 80) {
                step();
            }
            while (left > 0) {
                lookUp();
            }
        }
        due.end();
    }

    private static int upTo(int n) {
        state = state * 6364136223846793005L + 1442695040888963407L;
        return (int) ((state >>> 33) % (n + 1));
    }

    private static boolean rarely() {
        return upTo(24) == 0;
    }

    /** A number from least to most, rarely one near the ends or far beyond them. */
    private static int number(int least, int most) {
        if (rarely()) {
            int[] edges = {least - 1, least, most, most + 1, Integer.MIN_VALUE, Integer.MAX_VALUE, 0, -1};
            return edges[upTo(edges.length - 1)];
        }
        return least + upTo(most - least);
    }

    private static void same(String call, int got, int want) {
        left--;
        if (want != Model.UNTOLD) {
            due.is("run " + run + ": " + call, got, want);
        }
    }

    private static String text() {
        StringBuilder s = new StringBuilder();
        s.append("town ").append(LAWS[upTo(2)]).append(' ').append(upTo(3) == 0 ? upTo(999) : upTo(99));
        s.append(' ').append(upTo(99)).append(' ').append(upTo(upTo(20))).append(';');
        int people = rarely() ? 22 + upTo(3) : upTo(9);
        int mostRank = upTo(1) == 0 ? 2 : 9;
        for (int i = 0; i < people; i++) {
            s.append(upTo(2) == 0 ? "\n" : "").append("person ").append(KINDS[upTo(4)]);
            s.append(upTo(3) == 0 ? "" : " ").append(upTo(mostRank)).append(' ').append(upTo(99)).append(';');
        }
        if (upTo(6) == 0) {
            int at = upTo(s.length());
            int cut = Math.min(s.length(), at + upTo(3));
            s.replace(at, cut, SCRAPS[upTo(SCRAPS.length - 1)]);
        }
        return s.toString();
    }

    private static void town() {
        String text = text();
        for (int i = 0; i < text.length(); i += 8) {
            int n = Math.min(8, text.length() - i);
            long w = upTo(9);
            for (int k = 0; k < n; k++) {
                w = w << 8 | text.charAt(i + k);
            }
            same("feed", x.feed(w, n), model.feed(w, n));
        }
        same("town of '" + text + "'", x.town(), model.town());
        same("fault", x.fault(), model.fault());
    }

    private static void rows() {
        int a = number(0, 7);
        int b = number(0, 7);
        int i = upTo(5) == 0 ? number(0, 40) : upTo(3);
        int n = upTo(5) == 0 ? number(0, 40) : upTo(3);
        switch (upTo(3)) {
            case 0:
                same("drop", x.drop(a), model.drop(a));
                break;
            case 1:
                int v = upTo(9) == 0 ? number(-40000, 70000) : number(0, 20);
                same("set " + a + " " + i + " " + v, x.set(a, i, v), model.set(a, i, v));
                break;
            case 2:
                int j = number(0, 5);
                same("copy", x.copy(a, i, b, j, n), model.copy(a, i, b, j, n));
                break;
            default:
                int lane = number(0, 2);
                same("row", x.row(a, lane, n), model.row(a, lane, n));
        }
    }

    /** Two rows that are a span for foretold calls. */
    private static void spans() {
        int low = upTo(7);
        int high = upTo(7);
        int n = 1 + upTo(upTo(3) == 0 ? 19 : 5);
        int lane = upTo(2);
        same("row", x.row(low, lane, n), model.row(low, lane, n));
        same("row", x.row(high, lane, n), model.row(high, lane, n));
        for (int i = 0; i < n; i++) {
            int fewest = upTo(upTo(9));
            int most = fewest + upTo(upTo(4) == 0 ? 10 : 2);
            same("set", x.set(low, i, fewest), model.set(low, i, fewest));
            same("set", x.set(high, i, most), model.set(high, i, most));
        }
        for (int k = 0; k < 12; k++) {
            foretold(low, high, n);
        }
    }

    private static void foretold(int low, int high, int n) {
        int person = number(0, Math.max(model.count(1) - 1, 0));
        int m = upTo(9) == 0 ? number(1, 20) : 1 + upTo(n - 1);
        int what = number(0, 1);
        String args = " of " + person + " by " + low + ", " + high + ", " + m + ", " + what;
        same("out" + args, x.out(person, low, m), model.out(person, low, m));
        same("span" + args, x.span(person, low, high, m, what), model.span(person, low, high, m, what));
        same("odds" + args, x.odds(person, low, high, m, what), model.odds(person, low, high, m, what));
        same("lasts" + args, x.lasts(low, m), model.lasts(low, m));
        int people = upTo(5) == 0 ? number(0, (1 << 24) - 1) : 1 << upTo(23) | 1 << upTo(9);
        int d = Math.min(m, 1 + upTo(4));
        same("hire " + people + args, x.hire(people, low, d), model.hire(people, low, d));
        same("status", x.status(), model.status());
    }

    private static void counts() {
        int row = upTo(7);
        int n = 3 + upTo(12);
        same("row", x.row(row, 1, n), model.row(row, 1, n));
        for (int i = 0; i < n; i++) {
            int v = upTo(3) == 0 ? number(0, 99) : upTo(9);
            same("set", x.set(row, i, v), model.set(row, i, v));
        }
        for (int k = 0; k < 3; k++) {
            int m = upTo(5) == 0 ? number(1, 13) : 1 + upTo(n / 3 - 1);
            int what = number(0, 1);
            same("unseen", x.unseen(row, m, what), model.unseen(row, m, what));
        }
    }

    private static void days() {
        int person = number(0, Math.max(model.count(1) - 1, 0));
        switch (upTo(6)) {
            case 0:
                same("born", x.born(), model.born());
                break;
            case 1:
                same("smuggle", x.smuggle(person), model.smuggle(person));
                break;
            case 2:
                same("call", x.call(person), model.call(person));
                break;
            case 3:
                int k = number(0, 1);
                same("image", x.image(k), model.image(k));
                break;
            case 4:
                int r = number(0, 1);
                if (upTo(2) == 0) {
                    same("restore", x.restore(r), model.restore(r));
                }
                break;
            default:
                int n = upTo(4) == 0 ? number(0, 20) : upTo(4);
                int h = number(0, Math.max(n, 0) % 21);
                same("day " + n + " " + h, x.day(n, h), model.day(n, h));
        }
    }

    private static void asked() {
        int person = number(0, Math.max(model.count(1) - 1, 0));
        int kind = number(0, 5);
        int what = number(0, 1);
        same("as", x.as(person, kind), model.as(person, kind));
        same("ask", x.ask(person, what), model.ask(person, what));
        for (int i = -1; i < 6; i++) {
            same("trace", x.trace(i), model.trace(i));
        }
    }

    private static void lookUp() {
        int person = number(0, Math.max(model.count(1) - 1, 0));
        int what = number(0, 5);
        int count = number(0, 8);
        same("person " + person + " " + what, x.person(person, what), model.person(person, what));
        same("count " + count, x.count(count), model.count(count));
        same("kind", x.kind(person), model.kind(person));
        same("swaps", x.swaps(person, what % 3), model.swaps(person, what % 3));
        same("status", x.status(), model.status());
    }

    private static void step() {
        int choice = upTo(11);
        if (left == CALLS && upTo(4) > 0 || choice == 0 && upTo(2) == 0) {
            town();
        } else if (choice <= 2) {
            rows();
        } else if (choice == 3) {
            spans();
        } else if (choice == 4) {
            counts();
        } else if (choice == 5) {
            asked();
        } else if (choice == 6) {
            int a = number(0, 999);
            int b = number(0, 999);
            int k = number(0, 100);
            int n = upTo(2) == 0 ? number(0, 1000) : upTo(9);
            same("gates", x.gates(a, b, k, n), model.gates(a, b, k, n));
            int bytes = rarely() ? number(1, 8) : 0;
            same("feed", x.feed(state, bytes), model.feed(state, bytes));
        } else if (choice <= 9) {
            days();
        } else {
            lookUp();
        }
    }
}
