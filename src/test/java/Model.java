import java.util.ArrayList;
import java.util.Arrays;
import java.util.Comparator;
import java.util.List;
import java.util.regex.Matcher;
import java.util.regex.Pattern;

/** What the document says, said a second time: by lists that are walked through and by trying all there is. */
final class Model {
    static final int NONE = Due.NONE, BAD = Due.BAD, STATE = Due.STATE, FULL = Due.FULL;
    /** What is answered where trying all there is would take too long: the test passes over it. */
    static final int UNTOLD = Integer.MIN_VALUE;
    private static final long MOST_TRIED = 3000;

    private static final List<String> KINDS = List.of("person", "pilgrim", "hired", "called", "born", "smuggled");
    private static final List<String> BY_KIND = List.of("called", "pilgrim", "hired", "smuggled", "born");

    static final class One {
        int number;
        String kind;
        int rank;
        int haste;
        int outOn = NONE;

        One copy() {
            One c = new One();
            c.number = number;
            c.kind = kind;
            c.rank = rank;
            c.haste = haste;
            c.outOn = outOn;
            return c;
        }
    }

    static final class Place {
        String law = "";
        int bread;
        int pay;
        int came;
        int day;
        int spent;
        int hungry;
        List<One> all = new ArrayList<>();
        List<One> in = new ArrayList<>();

        Place copy() {
            Place c = new Place();
            c.law = law;
            c.bread = bread;
            c.pay = pay;
            c.came = came;
            c.day = day;
            c.spent = spent;
            c.hungry = hungry;
            for (One one : all) {
                c.all.add(one.copy());
            }
            for (One one : in) {
                c.in.add(c.all.get(one.number));
            }
            return c;
        }

        One join(String kind, int rank, int haste) {
            One one = new One();
            one.number = all.size();
            one.kind = kind;
            one.rank = rank;
            one.haste = haste;
            all.add(one);
            in.add(one);
            return one;
        }

        List<One> whoGoes() {
            List<One> sorted = new ArrayList<>(in);
            if (law.equals("rank")) {
                sorted.sort(Comparator.comparingInt((One one) -> one.rank).reversed());
            } else if (law.equals("kind")) {
                sorted.sort(Comparator.comparingInt((One one) -> BY_KIND.indexOf(one.kind)));
            }
            return sorted;
        }

        int pass(int pilgrims, int hired) {
            day++;
            List<One> sorted = whoGoes();
            List<One> gone = sorted.subList(0, Math.min(came, sorted.size()));
            for (One one : gone) {
                one.outOn = day;
            }
            in.removeAll(gone);
            for (int i = 0; i < pilgrims; i++) {
                join("pilgrim", 0, 0);
            }
            for (int i = 0; i < hired; i++) {
                join("hired", 0, 0);
            }
            spent += pay * hired;
            if (bread >= in.size()) {
                bread -= in.size();
            } else {
                hungry++;
            }
            came = pilgrims + hired;
            return gone.size();
        }

        /** On which of the days, 1 on, he is out, by so many pilgrims and hired ones. */
        int outDay(int person, int[] pilgrims, int[] hired) {
            Place c = copy();
            for (int k = 0; k < pilgrims.length; k++) {
                c.pass(pilgrims[k], hired[k]);
                if (!c.in.contains(c.all.get(person))) {
                    return k + 1;
                }
            }
            return NONE;
        }
    }

    interface Sized {
        default int size(One one, List<Integer> trace) {
            trace.add(10);
            return one.haste;
        }
    }

    interface Marked {
        default int mark(One one, List<Integer> trace) {
            trace.add(20);
            return one.number;
        }
    }

    static class Person implements Sized, Marked {
    }

    static class Pilgrim extends Person {
        @Override
        public int size(One one, List<Integer> trace) {
            trace.add(11);
            int lent = super.size(one, trace);
            return lent + mark(one, trace);
        }

        @Override
        public int mark(One one, List<Integer> trace) {
            trace.add(21);
            return super.mark(one, trace) + 100 * one.rank;
        }
    }

    static class Hired extends Pilgrim {
        @Override
        public int size(One one, List<Integer> trace) {
            trace.add(12);
            return -super.size(one, trace);
        }
    }

    static class Called extends Pilgrim {
        @Override
        public int mark(One one, List<Integer> trace) {
            trace.add(22);
            return super.mark(one, trace) - 1000;
        }
    }

    static class Born extends Person {
        @Override
        public int size(One one, List<Integer> trace) {
            trace.add(13);
            return super.size(one, trace) - 100;
        }

        @Override
        public int mark(One one, List<Integer> trace) {
            trace.add(23);
            int lent = super.mark(one, trace);
            return lent - size(one, trace);
        }
    }

    static class Smuggled extends Born {
        @Override
        public int size(One one, List<Integer> trace) {
            trace.add(14);
            return 2 * super.size(one, trace);
        }
    }

    private static final Person[] OF_KINDS = {new Person(), new Pilgrim(), new Hired(), new Called(), new Born(),
        new Smuggled()};

    private final int[][] rows = new int[8][];
    private final int[] lanes = new int[8];
    private final StringBuilder tape = new StringBuilder();
    private final Place[] images = new Place[2];
    private Place place = null;
    private List<Integer> trace = new ArrayList<>();
    private int fault = 0;
    private int status = 0;

    private static boolean in(int n, int least, int most) {
        return n >= least && n <= most;
    }

    private int found(int finding) {
        status = finding;
        return -1000010 - finding;
    }

    private int answer(int n) {
        status = 0;
        return n;
    }

    int row(int row, int lane, int n) {
        if (!in(row, 0, 7) || !in(lane, 0, 2) || n > 40) {
            return BAD;
        }
        if (n < 0) {
            return found(4);
        }
        rows[row] = new int[n];
        lanes[row] = lane;
        return answer(n);
    }

    int set(int row, int i, int v) {
        if (!in(row, 0, 7)) {
            return BAD;
        }
        if (rows[row] == null) {
            return found(1);
        }
        if (!in(i, 0, rows[row].length - 1)) {
            return found(2);
        }
        int bits = lanes[row] == 0 ? 24 : lanes[row] == 1 ? 16 : 0;
        rows[row][i] = v << bits >> bits;
        return answer(rows[row][i]);
    }

    int copy(int a, int i, int b, int j, int n) {
        if (!in(a, 0, 7) || !in(b, 0, 7)) {
            return BAD;
        }
        if (rows[a] == null || rows[b] == null) {
            return found(1);
        }
        if (lanes[a] != lanes[b]) {
            return found(5);
        }
        if (i < 0 || j < 0 || n < 0 || (long) i + n > rows[a].length || (long) j + n > rows[b].length) {
            return found(2);
        }
        int[] taken = Arrays.copyOfRange(rows[a], i, i + n);
        for (int k = 0; k < n; k++) {
            rows[b][j + k] = taken[k];
        }
        return answer(n);
    }

    int drop(int row) {
        if (!in(row, 0, 7)) {
            return BAD;
        }
        if (rows[row] == null) {
            return found(1);
        }
        int n = rows[row].length;
        rows[row] = null;
        return answer(n);
    }

    int feed(long w, int n) {
        if (!in(n, 1, 8)) {
            return BAD;
        }
        if (tape.length() + n > 500) {
            return FULL;
        }
        StringBuilder back = new StringBuilder();
        long rest = w;
        for (int k = 0; k < n; k++) {
            back.append((char) (rest & 255));
            rest >>= 8;
        }
        tape.append(back.reverse());
        return tape.length();
    }

    private record Token(String text, int at) {
    }

    /** All tokens; what is none is told as "?", the end as "". */
    private static List<Token> tokens(String text) {
        List<Token> all = new ArrayList<>();
        Matcher m = Pattern.compile("[a-z]+|[0-9]+|;|[ \n]+|.", Pattern.DOTALL).matcher(text);
        while (m.find()) {
            String s = m.group();
            if (s.charAt(0) == ' ' || s.charAt(0) == '\n') {
                continue;
            }
            all.add(new Token(s.matches("[a-z]+|[0-9]{1,3}|;") ? s : "?", m.start()));
        }
        all.add(new Token("", text.length()));
        return all;
    }

    /** What may stand at token i of a text: words with bars between them, or #most for a number. */
    private static String due(int i) {
        String[] head = {"town", "list|rank|kind", "#999", "#99", "#20", ";"};
        String[] person = {"person|", "pilgrim|hired|born|smuggled|called", "#9", "#99", ";"};
        return i < head.length ? head[i] : person[(i - head.length) % person.length];
    }

    private static int faultOf(Token token, int i) {
        String due = due(i);
        if (due.startsWith("#")) {
            if (!token.text.matches("[0-9]+")) {
                return 1;
            }
            return Integer.parseInt(token.text) > Integer.parseInt(due.substring(1)) ? 2 : 0;
        }
        if (!Arrays.asList(due.split("\\|", -1)).contains(token.text)) {
            return 1;
        }
        return token.text.equals("person") && i >= 6 + 5 * 24 ? 3 : 0;
    }

    int town() {
        List<Token> tokens = tokens(tape.toString());
        tape.setLength(0);
        for (int i = 0; i < tokens.size(); i++) {
            int number = faultOf(tokens.get(i), i);
            if (number != 0) {
                fault = number;
                return -1000100 - tokens.get(i).at;
            }
        }
        Place read = new Place();
        read.law = tokens.get(1).text;
        read.bread = Integer.parseInt(tokens.get(2).text);
        read.pay = Integer.parseInt(tokens.get(3).text);
        read.came = Integer.parseInt(tokens.get(4).text);
        for (int i = 6; i + 4 < tokens.size(); i += 5) {
            read.join(tokens.get(i + 1).text, Integer.parseInt(tokens.get(i + 2).text),
                    Integer.parseInt(tokens.get(i + 3).text));
        }
        place = read;
        return read.all.size();
    }

    int fault() {
        return fault;
    }

    int day(int n, int h) {
        if (place == null) {
            return STATE;
        }
        if (!in(n, 0, 20) || !in(h, 0, n)) {
            return BAD;
        }
        if (place.all.size() + n > 60) {
            return FULL;
        }
        return place.pass(n - h, h);
    }

    int born() {
        if (place == null) {
            return STATE;
        }
        if (place.all.size() == 60) {
            return FULL;
        }
        return place.join("born", 0, 0).number;
    }

    private One one(int person) {
        return place == null || !in(person, 0, place.all.size() - 1) ? null : place.all.get(person);
    }

    private One within(int person) {
        One one = one(person);
        return one != null && place.in.contains(one) ? one : null;
    }

    int smuggle(int person) {
        if (one(person) == null) {
            return BAD;
        }
        if (within(person) == null) {
            return STATE;
        }
        place.in.remove(one(person));
        one(person).outOn = NONE;
        return 1;
    }

    int call(int person) {
        if (one(person) == null) {
            return BAD;
        }
        if (within(person) != null) {
            return STATE;
        }
        place.in.add(one(person));
        one(person).kind = "called";
        one(person).outOn = NONE;
        return place.in.size() - 1;
    }

    private static int none(int index) {
        return index < 0 ? NONE : index;
    }

    int person(int person, int what) {
        One one = one(person);
        if (one == null || !in(what, 0, 5)) {
            return BAD;
        }
        int[] told = {KINDS.indexOf(one.kind), one.rank, one.haste, none(place.in.indexOf(one)),
            none(place.whoGoes().indexOf(one)), one.outOn};
        return told[what];
    }

    private int[] items(int row, int m) {
        return Arrays.copyOf(rows[row], m);
    }

    private int finding(int row, int m) {
        return rows[row] == null ? 1 : rows[row].length < m ? 2 : 0;
    }

    private static boolean all(int[] items, int most) {
        return Arrays.stream(items).allMatch(v -> in(v, 0, most));
    }

    int out(int person, int row, int m) {
        if (within(person) == null || !in(row, 0, 7) || !in(m, 1, 20)) {
            return BAD;
        }
        if (finding(row, m) != 0) {
            return found(finding(row, m));
        }
        if (!all(items(row, m), 20)) {
            return BAD;
        }
        return answer(place.outDay(person, items(row, m), new int[m]));
    }

    /** Every row of numbers from low to high, one after another. */
    private static boolean nextBetween(int[] at, int[] low, int[] high) {
        for (int k = 0; k < at.length; k++) {
            if (at[k] < high[k]) {
                at[k]++;
                return true;
            }
            at[k] = low[k];
        }
        return false;
    }

    private static long tries(int[] low, int[] high) {
        long all = 1;
        for (int k = 0; k < low.length; k++) {
            all = Math.min(all * (high[k] - low[k] + 1), 1L << 40);
        }
        return all;
    }

    private int spanRefused(int person, int fewest, int most, int m, int spread) {
        int finding = finding(fewest, m) != 0 ? finding(fewest, m) : finding(most, m);
        if (finding != 0) {
            return found(finding);
        }
        int[] low = items(fewest, m);
        int[] high = items(most, m);
        if (!all(low, 20) || !all(high, 20)) {
            return BAD;
        }
        for (int k = 0; k < m; k++) {
            if (high[k] < low[k] || high[k] - low[k] > spread) {
                return BAD;
            }
        }
        return 0;
    }

    int span(int person, int fewest, int most, int m, int what) {
        if (within(person) == null || !in(fewest, 0, 7) || !in(most, 0, 7) || !in(m, 1, 20) || !in(what, 0, 1)) {
            return BAD;
        }
        int refused = spanRefused(person, fewest, most, m, 20);
        if (refused != 0) {
            return refused;
        }
        int[] low = items(fewest, m);
        int[] high = items(most, m);
        status = 0;
        if (tries(low, high) > MOST_TRIED) {
            return UNTOLD;
        }
        int[] at = low.clone();
        int first = Integer.MAX_VALUE;
        int last = 0;
        do {
            int day = place.outDay(person, at, new int[m]);
            first = Math.min(first, day == NONE ? Integer.MAX_VALUE : day);
            last = Math.max(last, day == NONE ? Integer.MAX_VALUE : day);
        } while (nextBetween(at, low, high));
        int told = what == 0 ? first : last;
        return told == Integer.MAX_VALUE ? NONE : told;
    }

    int odds(int person, int fewest, int most, int d, int what) {
        if (within(person) == null || !in(fewest, 0, 7) || !in(most, 0, 7) || !in(d, 1, 8) || !in(what, 0, 1)) {
            return BAD;
        }
        int refused = spanRefused(person, fewest, most, d, 9);
        if (refused != 0) {
            return refused;
        }
        int[] low = items(fewest, d);
        int[] high = items(most, d);
        status = 0;
        long all = tries(low, high);
        if (all > MOST_TRIED) {
            return UNTOLD;
        }
        int[] at = low.clone();
        long out = 0;
        do {
            out += place.outDay(person, at, new int[d]) == NONE ? 0 : 1;
        } while (nextBetween(at, low, high));
        long divisor = 1;
        for (long k = 2; k <= all; k++) {
            if (out % k == 0 && all % k == 0) {
                divisor = k;
            }
        }
        return (int) (what == 0 ? out / divisor : all / divisor);
    }

    private boolean allOut(int people, int[] pilgrims, int[] hired) {
        Place c = place.copy();
        for (int k = 0; k < pilgrims.length; k++) {
            c.pass(pilgrims[k], hired[k]);
        }
        for (One one : place.in) {
            if (one.number < 24 && (people >> one.number & 1) == 1 && c.in.contains(c.all.get(one.number))) {
                return false;
            }
        }
        return true;
    }

    /** Tries every way to hire so many on days from k on. */
    private boolean hireable(int people, int[] pilgrims, int[] hired, int k, int left) {
        int days = pilgrims.length - 1;
        if (k >= days) {
            return left == 0 && allOut(people, pilgrims, hired);
        }
        for (int n = k == days - 1 ? left : 0; n <= left; n++) {
            hired[k] = n;
            if (hireable(people, pilgrims, hired, k + 1, left - n)) {
                hired[k] = 0;
                return true;
            }
        }
        hired[k] = 0;
        return false;
    }

    int hire(int people, int row, int d) {
        if (place == null) {
            return STATE;
        }
        if (people < 0 || !in(row, 0, 7) || !in(d, 1, 20)) {
            return BAD;
        }
        if (finding(row, d) != 0) {
            return found(finding(row, d));
        }
        if (!all(items(row, d), 20)) {
            return BAD;
        }
        status = 0;
        int most = d == 1 ? 0 : place.in.size() + 1;
        if (d > 3 && place.in.size() > 7 || d > 5) {
            return UNTOLD;
        }
        for (int all = 0; all <= most; all++) {
            if (hireable(people, items(row, d), new int[d], 0, all)) {
                return all;
            }
        }
        return NONE;
    }

    int swaps(int person, int what) {
        if (within(person) == null || !in(what, 0, 2)) {
            return BAD;
        }
        List<One> list = new ArrayList<>(place.in);
        int changes = 0;
        int price = 0;
        for (int i = 0; i + 1 < list.size(); i++) {
            int more = list.get(i + 1).haste - list.get(i).haste;
            if (more > 0) {
                list.add(i, list.remove(i + 1));
                changes++;
                price += more;
                i = -1;
            }
        }
        return what == 0 ? changes : what == 1 ? price : list.indexOf(one(person));
    }

    int lasts(int row, int m) {
        if (place == null) {
            return STATE;
        }
        if (!in(row, 0, 7) || !in(m, 1, 20)) {
            return BAD;
        }
        if (finding(row, m) != 0) {
            return found(finding(row, m));
        }
        if (!all(items(row, m), 20)) {
            return BAD;
        }
        Place c = place.copy();
        for (int k = 0; k < m; k++) {
            c.pass(items(row, m)[k], 0);
            if (c.hungry > place.hungry) {
                return answer(k + 1);
            }
        }
        return answer(NONE);
    }

    int unseen(int row, int m, int what) {
        if (place == null) {
            return STATE;
        }
        if (!in(row, 0, 7) || !in(m, 1, 13) || !in(what, 0, 1)) {
            return BAD;
        }
        if (finding(row, 3 * m) != 0) {
            return found(finding(row, 3 * m));
        }
        int[] items = items(row, 3 * m);
        if (!all(items, 99)) {
            return BAD;
        }
        int days = 0;
        int all = 0;
        int there = place.in.size();
        for (int k = 0; k < m; k++) {
            there = there + items[3 * k] - items[3 * k + 1];
            int missing = Math.max(there - items[3 * k + 2], 0);
            all += missing;
            days += missing > 0 ? 1 << k : 0;
            there = items[3 * k + 2];
        }
        return answer(what == 0 ? days : all);
    }

    int gates(int x, int y, int k, int n) {
        if (!in(x, 0, 999) || !in(y, 0, 999) || !in(k, 0, 100) || !in(n, 0, 1000)) {
            return BAD;
        }
        int[] came = {x, y};
        for (int day = 0; day < n; day++) {
            came = new int[] {came[1] * (100 - k) / 100, came[0] * (100 - k) / 100};
        }
        return came[0];
    }

    int image(int k) {
        if (!in(k, 0, 1)) {
            return BAD;
        }
        if (place == null) {
            return STATE;
        }
        images[k] = place.copy();
        return 1;
    }

    int restore(int k) {
        if (!in(k, 0, 1)) {
            return BAD;
        }
        if (images[k] == null) {
            return STATE;
        }
        place = images[k].copy();
        return 1;
    }

    int kind(int person) {
        return person(person, 0);
    }

    int as(int person, int kind) {
        if (one(person) == null || !in(kind, 0, 5)) {
            return BAD;
        }
        Person him = OF_KINDS[kind(person)];
        return OF_KINDS[kind].getClass().isInstance(him) ? answer(person) : found(3);
    }

    int ask(int person, int what) {
        if (one(person) == null || !in(what, 0, 1)) {
            return BAD;
        }
        trace = new ArrayList<>();
        Person him = OF_KINDS[kind(person)];
        return what == 0 ? him.size(one(person), trace) : him.mark(one(person), trace);
    }

    int trace(int i) {
        return in(i, 0, Math.min(trace.size(), 16) - 1) ? trace.get(i) : NONE;
    }

    int count(int what) {
        if (!in(what, 0, 8)) {
            return BAD;
        }
        if (what == 0) {
            return (int) Arrays.stream(rows).filter(row -> row != null).count();
        }
        if (what == 8) {
            return tape.length();
        }
        if (place == null) {
            return 0;
        }
        int[] told = {0, place.all.size(), place.in.size(), place.day, place.bread, place.spent, place.hungry,
            place.came};
        return told[what];
    }

    int status() {
        return status;
    }
}
