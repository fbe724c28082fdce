import java.util.ArrayList;
import java.util.List;
import java.util.function.Supplier;
import java.util.function.ToIntBiFunction;
import java.util.function.ToIntFunction;

/** What the tests of edges share: the sentence that is looked at, and objects of one past set side by side. */
abstract class Edges {
    static final int NONE = Due.NONE, BAD = Due.BAD, STATE = Due.STATE, FULL = Due.FULL;
    static final int NULL = Due.NULL, PLACE = Due.PLACE, KIND = Due.KIND, SIZE = Due.SIZE, STORE = Due.STORE;
    static final int LEAST = Integer.MIN_VALUE, MOST = Integer.MAX_VALUE;
    static final String ONE = "person born 1 1;";
    static final String FIVE = "person born 0 10;person smuggled 0 20;person hired 0 30;"
            + "person pilgrim 0 40;person called 0 50;";

    private static final Due due = new Due("EdgesTest");
    private static final Document document = new Document();
    private static String sentence = "";

    /** Names the sentence of a promise that the answers from here on look at. */
    static void promise(int number, String words) {
        says("Promise " + number, words);
    }

    static void terms(String words) {
        says("Terms", words);
    }

    static void says(String section, String words) {
        sentence = section + " '" + words + "'";
        due.is(sentence + " stands in the document once", document.name(section, words) ? 1 : 0, 1);
    }

    static void is(String call, long got, long want) {
        due.is(sentence + ": " + call, got, want);
    }

    static void are(String call, int[] got, int... want) {
        due.are(sentence + ": " + call, got, want);
    }

    static void end() {
        for (String words : document.unnamed()) {
            due.is("a test that names '" + words + "'", 0, 1);
        }
        due.end();
    }

    // ---- objects of many calls

    static AsManyAsCame whole() {
        return whole("town rank 9 8 1; pers");
    }

    /**
     * Something of all there is: 9 numbers, of whom 0 and 4 went out, 3 was smuggled, 1, 2, 5, 6, 7, 8 stand on THE
     * LIST; rows 0 of bytes, 1 of shorts, 2 of ints, which is empty; IMAGE 0; THE TRACE 12, 11, 10, 21, 20; fault() 2;
     * status() 3; the tape as told.
     */
    static AsManyAsCame whole(String tape) {
        AsManyAsCame x = Due.of("town kind 50 7 2;person pilgrim 3 10;person hired 2 20;person born 1 30;"
                + "person smuggled 4 40;person called 5 50;person pilgrim 0 60;");
        x.image(0);
        x.day(2, 1);
        x.smuggle(3);
        x.born();
        Due.fill(x, 0, 0, 1, 2, 0, 3, 20);
        Due.fill(x, 1, 1, 2, 4, 5);
        x.row(2, 2, 0);
        Due.read(x, "town list 1 100 1;");
        Due.feed(x, tape);
        x.ask(1, 0);
        x.as(1, 4);
        return x;
    }

    /** Rows, an IMAGE that was not kept, a tape, a FAULT, a FINDING; no TOWN. */
    static AsManyAsCame townless() {
        AsManyAsCame x = new AsManyAsCame();
        Due.read(x, "town list 1 100 1;");
        Due.fill(x, 0, 0, 1, 2, 3);
        Due.feed(x, "town");
        x.drop(6);
        return x;
    }

    /** The town of five people of all kinds, told in the order in which the law kind lets them out last. */
    static AsManyAsCame five(String law, int came) {
        return Due.of("town " + law + " 0 0 " + came + ";" + FIVE);
    }

    /** So many numbers, 24 at least, all of whom are in; nobody came the day before. */
    static AsManyAsCame numbers(int n) {
        AsManyAsCame x = Due.of("town list 99 3 0;" + Due.many(ONE, 24));
        for (int i = 24; i < n; i++) {
            x.born();
        }
        return x;
    }

    // ---- calls that change nothing

    /** A call that is refused on whole(). */
    static void refused(String call, ToIntFunction<AsManyAsCame> made, int answer) {
        refused(call, Edges::whole, made, answer);
    }

    static void refused(String call, Supplier<AsManyAsCame> past, ToIntFunction<AsManyAsCame> made, int answer) {
        leaves(call, past, made, answer, past.get().status());
    }

    /** A call of whole() that is refused for each of the numbers. */
    static void refusedOf(String call, ToIntBiFunction<AsManyAsCame, Integer> made, int answer, int... numbers) {
        for (int number : numbers) {
            refused(call + " of " + number, x -> made.applyAsInt(x, number), answer);
        }
    }

    static void found(String call, ToIntFunction<AsManyAsCame> made, int answer) {
        found(call, Edges::whole, made, answer);
    }

    static void found(String call, Supplier<AsManyAsCame> past, ToIntFunction<AsManyAsCame> made, int answer) {
        leaves(call, past, made, answer, -1000010 - answer);
    }

    /** A call that tells but changes nothing on whole(), other than status() as told. */
    static void tells(String call, ToIntFunction<AsManyAsCame> made, int answer, int status) {
        leaves(call, Edges::whole, made, answer, status);
    }

    private static void leaves(String call, Supplier<AsManyAsCame> past, ToIntFunction<AsManyAsCame> made, int answer,
            int status) {
        AsManyAsCame x = past.get();
        AsManyAsCame y = past.get();
        is(call, made.applyAsInt(x), answer);
        is("status() behind " + call, x.status(), status);
        is("fault() behind " + call, x.fault(), y.fault());
        sameFromNowOn("behind " + call, x, y);
    }

    /** All that the two answer from here on, beside fault() and status(). */
    static void sameFromNowOn(String call, AsManyAsCame x, AsManyAsCame y) {
        are("what tells of all " + call, all(x), all(y));
    }

    /** Some 300 calls, behind which the object is another. */
    private static int[] all(AsManyAsCame x) {
        List<Integer> told = new ArrayList<>();
        for (int i = 0; i <= 5; i++) {
            told.add(x.trace(i));
        }
        people(x, told);
        told.add(x.day(0, 0));
        told.add(x.day(2, 1));
        people(x, told);
        told.add(x.town());
        told.add(x.fault());
        told.add(x.count(1));
        for (int k = 0; k <= 1; k++) {
            told.add(x.restore(k));
            if (k == 0) {
                people(x, told);
            }
        }
        told.add(x.drop(7));
        Due.read(x, "town list 0 0 0;");
        for (int row = 0; row < 7; row++) {
            told.add(lane(x, row));
            for (int item : items(x, row)) {
                told.add(item);
            }
            told.add(x.drop(row));
        }
        return told.stream().mapToInt(Integer::intValue).toArray();
    }

    /** The counts and the people; of more than twelve the first and the last six. */
    private static void people(AsManyAsCame x, List<Integer> told) {
        for (int what = 0; what <= 8; what++) {
            told.add(x.count(what));
        }
        int n = x.count(1);
        for (int person = 0; person < n; person++) {
            if (person < 6 || person >= n - 6) {
                for (int what = 0; what <= 5; what++) {
                    told.add(x.person(person, what));
                }
            }
        }
    }

    /** The lane of a row beside row 7, which has three items of that lane then; or NULL. */
    static int lane(AsManyAsCame x, int row) {
        for (int lane = 0; lane <= 2; lane++) {
            x.row(7, lane, 3);
            if (x.copy(row, 0, 7, 0, 0) == 0) {
                return lane;
            }
        }
        return NULL;
    }

    /** The items, of 0 to 99, of a row beside row 7, while nobody is in the town. */
    static int[] items(AsManyAsCame x, int row) {
        List<Integer> told = new ArrayList<>();
        if (lane(x, row) >= 0) {
            while (told.size() < 40 && x.copy(row, told.size(), 7, 0, 1) == 1) {
                told.add(x.unseen(7, 1, 1));
            }
        }
        return told.stream().mapToInt(Integer::intValue).toArray();
    }
}
