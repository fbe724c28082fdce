/** Promises 14 to 21: what is foretold. */
final class ForetoldTest {
    private static final Due due = new Due("ForetoldTest");
    private static final String FIVE = "person born 0 10;person smuggled 0 20;person hired 0 30;"
            + "person pilgrim 0 40;person called 0 50;";

    public static void main(String[] args) {
        out();
        outByKind();
        outRefused();
        span();
        spanRefused();
        odds();
        oddsRefused();
        hire();
        hireByKind();
        hireRefused();
        swaps();
        lasts();
        unseen();
        gates();
        due.end();
    }

    private static void out() {
        AsManyAsCame x = Due.of("town list 0 0 1;" + FIVE);
        Due.fill(x, 0, 0, 0, 2, 0, 1, 20);
        due.is("the first day", x.out(0, 0, 1), 1);
        due.is("not in one", x.out(1, 0, 1), Due.NONE);
        due.is("who came on day 2 lets out on day 3", x.out(1, 0, 5), 3);
        due.is("two of them", x.out(2, 0, 5), 3);
        due.is("one on day 5", x.out(3, 0, 5), 5);
        due.is("not in four", x.out(3, 0, 4), Due.NONE);
        due.is("who comes on the last day lets none out", x.out(4, 0, 5), Due.NONE);
        Due.fill(x, 1, 2, Due.repeated(20, 20));
        due.is("twenty days of twenty", x.out(4, 1, 20), 2);
        due.are("nothing changes", Due.counts(x), 2, 5, 5, 0, 0, 0, 0, 1, 0);
        AsManyAsCame r = Due.of("town rank 0 0 1;person born 0 0;person born 1 0;person born 0 0;");
        Due.fill(r, 0, 0, 1, 1, 1);
        due.is("rank: the greatest", r.out(1, 0, 3), 1);
        due.is("rank: then as they stand", r.out(0, 0, 3), 2);
        due.is("rank: those who come are behind", r.out(2, 0, 3), 3);
    }

    private static void outByKind() {
        AsManyAsCame x = Due.of("town kind 0 0 2;" + FIVE);
        Due.fill(x, 0, 0, 1, 2, 3, 20);
        due.is("called", x.out(4, 0, 4), 1);
        due.is("pilgrim", x.out(3, 0, 4), 1);
        due.is("hired: pilgrims pass him", x.out(2, 0, 4), Due.NONE);
        due.is("smuggled", x.out(1, 0, 4), Due.NONE);
        due.is("born", x.out(0, 0, 4), Due.NONE);
        AsManyAsCame y = Due.of("town kind 0 0 5;" + FIVE);
        Due.fill(y, 0, 0, 0, 0);
        due.is("born, on the first day", y.out(0, 0, 2), 1);
        AsManyAsCame z = Due.of("town kind 0 0 0;person pilgrim 0 0;person pilgrim 0 0;");
        Due.fill(z, 0, 0, 1, 1, 0);
        due.is("a pilgrim is not passed", z.out(1, 0, 3), 3);
    }

    private static void outRefused() {
        AsManyAsCame x = Due.of("town list 0 0 1;" + FIVE);
        Due.fill(x, 0, 0, 1, 20, 21, 1, -1);
        x.row(1, 2, 21);
        due.is("an item that is not looked at", x.out(0, 0, 2), 1);
        due.is("an item of 21", x.out(0, 0, 3), Due.BAD);
        due.is("status behind it", x.status(), 0);
        due.is("m 0", x.out(0, 0, 0), Due.BAD);
        due.is("m 21", x.out(0, 1, 21), Due.BAD);
        due.is("m 20", x.out(0, 1, 20), 1);
        due.is("m -1", x.out(0, 0, -1), Due.BAD);
        due.is("PLACE", x.out(0, 0, 6), Due.PLACE);
        due.is("status 2", x.status(), 2);
        due.is("a BAD item leaves status", x.out(0, 0, 5), Due.BAD);
        due.is("status still 2", x.status(), 2);
        due.is("NONE has no finding", x.out(4, 0, 1), Due.NONE);
        due.is("status 0", x.status(), 0);
        due.is("NULL", x.out(0, 2, 1), Due.NULL);
        due.is("status 1", x.status(), 1);
        due.is("BAD ahead of NULL: person", x.out(5, 2, 1), Due.BAD);
        due.is("BAD ahead of NULL: m", x.out(0, 2, 21), Due.BAD);
        due.is("row 8", x.out(0, 8, 1), Due.BAD);
        due.is("row -1", x.out(0, -1, 1), Due.BAD);
        due.is("person -1", x.out(-1, 0, 1), Due.BAD);
        x.smuggle(3);
        due.is("one who is out", x.out(3, 0, 1), Due.BAD);
        x.set(0, 2, 0);
        x.set(0, 4, -1);
        due.is("an item of -1", x.out(0, 0, 5), Due.BAD);
    }

    private static void span() {
        AsManyAsCame x = Due.of("town list 0 0 1;" + FIVE);
        Due.fill(x, 0, 0, 0, 1, 0, 1, 1);
        Due.fill(x, 1, 1, 2, 2, 0, 1, 20);
        due.is("0: first", x.span(0, 0, 1, 5, 0), 1);
        due.is("0: last", x.span(0, 0, 1, 5, 1), 1);
        due.is("1: first", x.span(1, 0, 1, 5, 0), 2);
        due.is("1: last", x.span(1, 0, 1, 5, 1), 3);
        due.is("2: first", x.span(2, 0, 1, 5, 0), 2);
        due.is("2: last", x.span(2, 0, 1, 5, 1), 5);
        due.is("3: first", x.span(3, 0, 1, 5, 0), 3);
        due.is("3: last, maybe behind them", x.span(3, 0, 1, 5, 1), Due.NONE);
        due.is("3: first, not in two", x.span(3, 0, 1, 2, 0), Due.NONE);
        AsManyAsCame k = Due.of("town kind 0 0 1;" + FIVE);
        Due.fill(k, 0, 0, 0, 0, 0);
        Due.fill(k, 1, 0, 20, 20, 20);
        due.is("hired: never", k.span(2, 0, 1, 3, 0), Due.NONE);
        due.is("pilgrim: first", k.span(3, 0, 1, 3, 0), 2);
        due.is("pilgrim: last", k.span(3, 0, 1, 3, 1), Due.NONE);
    }

    private static void spanRefused() {
        AsManyAsCame x = Due.of("town list 0 0 1;" + FIVE);
        Due.fill(x, 0, 0, 1, 2, 3);
        Due.fill(x, 1, 2, 1, 2, 2, 21, 20);
        due.is("below its fewest", x.span(0, 0, 1, 3, 0), Due.BAD);
        due.is("not within two", x.span(0, 0, 1, 2, 0), 1);
        due.is("one row twice", x.span(1, 0, 0, 3, 1), 2);
        due.is("what 2", x.span(0, 0, 1, 2, 2), Due.BAD);
        due.is("what -1", x.span(0, 0, 1, 2, -1), Due.BAD);
        due.is("m 0", x.span(0, 0, 1, 0, 0), Due.BAD);
        due.is("m 21", x.span(0, 0, 1, 21, 0), Due.BAD);
        due.is("first row", x.span(0, 8, 1, 1, 0), Due.BAD);
        due.is("second row", x.span(0, 0, -1, 1, 0), Due.BAD);
        due.is("person", x.span(5, 0, 1, 1, 0), Due.BAD);
        due.is("PLACE of the first", x.span(0, 0, 1, 4, 0), Due.PLACE);
        due.is("NULL of the second", x.span(0, 0, 2, 3, 0), Due.NULL);
        due.is("NULL of the first", x.span(0, 2, 0, 3, 0), Due.NULL);
        due.is("the first row's PLACE ahead of the second's NULL", x.span(0, 0, 2, 4, 0), Due.PLACE);
        due.is("status 2", x.status(), 2);
        due.is("the first row's NULL ahead of the second's PLACE", x.span(0, 2, 0, 4, 0), Due.NULL);
        due.is("PLACE of the second", x.span(0, 1, 0, 4, 0), Due.PLACE);
        due.is("what ahead of NULL", x.span(0, 2, 2, 1, 2), Due.BAD);
        x.row(0, 0, 5);
        due.is("a most of 21", x.span(0, 0, 1, 4, 0), Due.BAD);
        x.set(1, 3, 20);
        due.is("a most of 20", x.span(0, 0, 1, 5, 0), 1);
        x.set(0, 4, -1);
        x.set(1, 4, 5);
        due.is("a fewest of -1", x.span(0, 0, 1, 5, 0), Due.BAD);
        x.set(0, 4, 20);
        x.set(1, 4, 21);
        due.is("a most of 21, one above its fewest", x.span(0, 0, 1, 5, 0), Due.BAD);
        x.smuggle(0);
        due.is("one who is out", x.span(0, 0, 1, 2, 0), Due.BAD);
    }

    private static void fraction(AsManyAsCame x, String what, int person, int d, int above, int below) {
        due.is(what + ": above", x.odds(person, 0, 1, d, 0), above);
        due.is(what + ": below", x.odds(person, 0, 1, d, 1), below);
    }

    private static void odds() {
        AsManyAsCame x = Due.of("town list 0 0 1;" + FIVE);
        Due.fill(x, 0, 0, 0, 1, 0, 0);
        Due.fill(x, 1, 0, 1, 3, 9, 0);
        fraction(x, "the first", 0, 1, 1, 1);
        fraction(x, "the second by day 1", 1, 1, 0, 1);
        fraction(x, "the second by day 2", 1, 2, 1, 2);
        fraction(x, "the second by day 3", 1, 3, 1, 1);
        fraction(x, "the third by day 2", 2, 2, 0, 1);
        fraction(x, "the third by day 3", 2, 3, 5, 6);
        fraction(x, "the fourth by day 3", 3, 3, 1, 2);
        fraction(x, "the fifth by day 3", 4, 3, 1, 6);
        fraction(x, "the fifth by day 4", 4, 4, 17, 20);
        Due.fill(x, 0, 0, 20, 20, 20, 20, 20, 20, 20, 20);
        Due.fill(x, 1, 0, 20, 20, 20, 20, 20, 20, 20, 20);
        fraction(x, "all told", 4, 8, 1, 1);
        Due.fill(x, 0, 0, 11, 11, 11, 11, 11, 11, 11, 11);
        fraction(x, "nine apart", 4, 8, 1, 1);
        Due.fill(x, 0, 0, 0, 0, 0, 0, 0, 0, 0, 0);
        Due.fill(x, 1, 0, 9, 9, 9, 9, 9, 9, 9, 9);
        fraction(x, "eight days of ten: the second", 1, 8, 9999999, 10000000);
        fraction(x, "eight days of ten: the third", 2, 8, 1249999, 1250000);
        AsManyAsCame k = Due.of("town kind 0 0 1;" + FIVE);
        Due.fill(k, 0, 0, 0, 0);
        Due.fill(k, 1, 0, 9, 9);
        fraction(k, "kind: called", 4, 2, 1, 1);
        fraction(k, "kind: pilgrim", 3, 2, 9, 10);
        fraction(k, "kind: hired", 2, 2, 0, 1);
        fraction(k, "kind: born", 0, 2, 0, 1);
    }

    private static void oddsRefused() {
        AsManyAsCame x = Due.of("town list 0 0 1;" + FIVE);
        Due.fill(x, 0, 0, 0, 0, 5, 0, 0, 0, 0, 0, 0);
        Due.fill(x, 1, 0, 9, 10, 4, 0, 0, 0, 0, 0, 0);
        due.is("nine above", x.odds(0, 0, 1, 1, 0), 1);
        due.is("ten above", x.odds(0, 0, 1, 2, 0), Due.BAD);
        x.set(1, 1, 9);
        due.is("below", x.odds(0, 0, 1, 3, 0), Due.BAD);
        x.set(1, 2, 5);
        due.is("d 8", x.odds(0, 0, 1, 8, 0), 1);
        due.is("d 9", x.odds(0, 0, 1, 9, 0), Due.BAD);
        due.is("d 0", x.odds(0, 0, 1, 0, 0), Due.BAD);
        due.is("what 2", x.odds(0, 0, 1, 1, 2), Due.BAD);
        due.is("what -1", x.odds(0, 0, 1, 1, -1), Due.BAD);
        due.is("person", x.odds(-1, 0, 1, 1, 0), Due.BAD);
        due.is("fewest", x.odds(0, -1, 1, 1, 0), Due.BAD);
        due.is("most", x.odds(0, 0, 8, 1, 0), Due.BAD);
        due.is("NULL first", x.odds(0, 2, 1, 1, 0), Due.NULL);
        due.is("NULL second", x.odds(0, 0, 2, 1, 0), Due.NULL);
        x.row(2, 0, 1);
        due.is("PLACE first", x.odds(0, 2, 3, 2, 0), Due.PLACE);
        due.is("PLACE second", x.odds(0, 0, 2, 2, 0), Due.PLACE);
        due.is("status", x.status(), 2);
        x.set(0, 0, 21);
        x.set(1, 0, 21);
        x.drop(7);
        due.is("21", x.odds(0, 0, 1, 1, 0), Due.BAD);
        due.is("status stays", x.status(), 1);
        x.set(0, 0, 20);
        due.is("a most of 21", x.odds(0, 0, 1, 1, 0), Due.BAD);
        x.set(0, 0, -1);
        x.set(1, 0, 0);
        due.is("a fewest of -1", x.odds(0, 0, 1, 1, 0), Due.BAD);
        x.smuggle(0);
        x.row(0, 0, 1);
        x.row(1, 0, 1);
        due.is("one who is out", x.odds(0, 0, 1, 1, 0), Due.BAD);
    }

    private static void hire() {
        AsManyAsCame x = Due.of("town list 0 0 1;" + FIVE);
        Due.fill(x, 0, 0, Due.repeated(20, 0));
        x.set(0, 1, 1);
        x.set(0, 2, 1);
        due.is("nobody", x.hire(0, 0, 1), 0);
        due.is("the first by day 1", x.hire(1, 0, 1), 0);
        due.is("the second by day 1", x.hire(2, 0, 1), Due.NONE);
        due.is("the second by day 2", x.hire(2, 0, 2), 1);
        due.is("the second by day 3", x.hire(2, 0, 3), 0);
        due.is("the fifth by day 2", x.hire(16, 0, 2), 4);
        due.is("the fifth by day 3", x.hire(16, 0, 3), 3);
        due.is("the fifth by day 20", x.hire(16, 0, 20), 2);
        due.is("all by day 4", x.hire(31, 0, 4), 2);
        due.is("those who are not there do not count", x.hire(1 | 1 << 23, 0, 1), 0);
        due.is("bits from 24 on do not count", x.hire(1 << 24 | 1 << 30 | 1, 0, 1), 0);
        x.smuggle(1);
        due.is("who is out does not count", x.hire(2, 0, 1), 0);
        due.is("the third is the second then", x.hire(4, 0, 2), 1);
        AsManyAsCame y = Due.of("town list 0 0 0;" + Due.many("person born 0 0;", 24));
        Due.fill(y, 0, 0, 20, 20);
        due.is("any number may be hired", y.hire(1 << 23, 0, 2), 4);
        y.set(0, 0, 0);
        due.is("more than 20, too", y.hire(1 << 23, 0, 2), 24);
        due.is("numbers to 23 that came", Due.of("town list 0 0 0;").hire(1, 0, 1), Due.NULL);
        y.born();
        due.is("number 24 has no bit", y.hire(1 << 24, 0, 1), 0);
    }

    private static void hireByKind() {
        AsManyAsCame x = Due.of("town kind 0 0 1;" + FIVE);
        Due.fill(x, 0, 0, 3, 3, 3);
        due.is("called", x.hire(16, 0, 1), 0);
        due.is("pilgrim by day 1", x.hire(8, 0, 1), Due.NONE);
        due.is("pilgrim by day 2", x.hire(8, 0, 2), 0);
        due.is("hired: pilgrims do not help", x.hire(4, 0, 3), 2);
        due.is("hired by day 1", x.hire(4, 0, 1), Due.NONE);
        due.is("smuggled: hired ones pass him", x.hire(2, 0, 3), Due.NONE);
        due.is("born", x.hire(1, 0, 3), Due.NONE);
        due.is("one of them never", x.hire(5, 0, 3), Due.NONE);
        due.is("pilgrim and hired", x.hire(12, 0, 3), 2);
        AsManyAsCame y = Due.of("town kind 0 0 5;" + FIVE);
        Due.fill(y, 0, 0, 0);
        due.is("all on day 1", y.hire(31, 0, 1), 0);
    }

    private static void hireRefused() {
        AsManyAsCame x = new AsManyAsCame();
        due.is("STATE ahead of BAD", x.hire(-1, 9, 0), Due.STATE);
        Due.read(x, "town list 0 0 1;" + FIVE);
        Due.fill(x, 0, 0, 0, 21);
        due.is("people -1", x.hire(-1, 0, 1), Due.BAD);
        due.is("people least", x.hire(Integer.MIN_VALUE, 0, 1), Due.BAD);
        due.is("row", x.hire(1, 8, 1), Due.BAD);
        due.is("d 0", x.hire(1, 0, 0), Due.BAD);
        due.is("d 21", x.hire(1, 0, 21), Due.BAD);
        due.is("PLACE", x.hire(1, 0, 3), Due.PLACE);
        due.is("status 2", x.status(), 2);
        due.is("an item of day d is looked at", x.hire(1, 0, 2), Due.BAD);
        due.is("NULL", x.hire(1, 1, 1), Due.NULL);
        due.is("status 1", x.status(), 1);
        due.is("NONE has no finding", x.hire(2, 0, 1), Due.NONE);
        due.is("status 0", x.status(), 0);
    }

    private static void swaps() {
        AsManyAsCame x = Due.of("town kind 0 0 1;person born 0 5;person born 0 5;person born 0 9;"
                + "person born 0 0;person born 0 7;");
        due.is("how many", x.swaps(0, 0), 5);
        due.is("the price", x.swaps(0, 1), 4 + 4 + 2 + 2 + 7);
        int[] want = {2, 3, 0, 4, 1};
        for (int person = 0; person < 5; person++) {
            due.is("where one stands", x.swaps(person, 2), want[person]);
            due.is("the same for all", x.swaps(person, 0), 5);
        }
        due.are("nothing changes", Due.places(x, 3), 0, 1, 2, 3, 4);
        due.is("what 3", x.swaps(0, 3), Due.BAD);
        due.is("what -1", x.swaps(0, -1), Due.BAD);
        due.is("person 5", x.swaps(5, 0), Due.BAD);
        due.is("person -1", x.swaps(-1, 0), Due.BAD);
        x.smuggle(2);
        due.is("who is out", x.swaps(2, 0), Due.BAD);
        due.is("he does not count", x.swaps(0, 0), 3);
        due.is("nor his price", x.swaps(0, 1), 2 + 2 + 7);
        x.call(2);
        due.is("by the list, not by numbers", x.swaps(2, 0), 7);
        due.is("he stands first then", x.swaps(2, 2), 0);
    }

    private static void lasts() {
        AsManyAsCame x = new AsManyAsCame();
        due.is("STATE ahead of BAD", x.lasts(9, 0), Due.STATE);
        Due.read(x, "town list 12 0 2;" + FIVE);
        Due.fill(x, 0, 0, 1, 0, 0, 1, 21);
        due.is("4, 3, 3, then 4", x.lasts(0, 4), 4);
        due.is("not in three", x.lasts(0, 3), Due.NONE);
        due.is("an item", x.lasts(0, 5), Due.BAD);
        due.is("PLACE", x.lasts(0, 6), Due.PLACE);
        due.is("status", x.status(), 2);
        due.is("NULL", x.lasts(1, 1), Due.NULL);
        due.is("m 0", x.lasts(0, 0), Due.BAD);
        due.is("m 21", x.lasts(0, 21), Due.BAD);
        due.is("row", x.lasts(-1, 1), Due.BAD);
        due.is("bread stays", x.count(4), 12);
        AsManyAsCame y = Due.of("town list 0 0 20;" + FIVE);
        Due.fill(y, 0, 1, 0, 0, 1, 0);
        due.is("an empty town is not hungry", y.lasts(0, 2), Due.NONE);
        due.is("till one comes", y.lasts(0, 4), 3);
        AsManyAsCame z = Due.of("town list 999 0 0;" + Due.many("person born 0 0;", 20));
        Due.fill(z, 0, 0, Due.repeated(20, 20));
        due.is("those who come go out on the next day", z.lasts(0, 20), Due.NONE);
        Due.fill(z, 1, 0, Due.repeated(20, 20, 0));
        due.is("numbers above 60 do not matter", z.lasts(1, 20), Due.NONE);
        AsManyAsCame w = Due.of("town list 10 0 0;person born 0 0;");
        Due.fill(w, 0, 0, 8, 0);
        due.is("just enough, then just all", w.lasts(0, 2), Due.NONE);
        w.set(0, 0, 10);
        due.is("eleven for ten", w.lasts(0, 2), 1);
    }

    private static void unseen() {
        AsManyAsCame x = new AsManyAsCame();
        due.is("STATE ahead of BAD", x.unseen(9, 0, 3), Due.STATE);
        Due.read(x, "town list 0 0 0;" + FIVE);
        Due.fill(x, 0, 0, 1, 2, 4, 0, 0, 2, 3, 1, 9, 0, 1, 6, 0, 99, 0, 0, 0, 0);
        due.is("days", x.unseen(0, 4, 0), 0b1010);
        due.is("how many", x.unseen(0, 4, 1), 4);
        due.is("more went out than there were", x.unseen(0, 5, 1), 4);
        due.is("six", x.unseen(0, 6, 0), 0b1010);
        due.is("one", x.unseen(0, 1, 0), 0);
        due.is("PLACE", x.unseen(0, 7, 0), Due.PLACE);
        due.is("status", x.status(), 2);
        due.is("NULL", x.unseen(1, 1, 0), Due.NULL);
        due.is("row", x.unseen(8, 1, 0), Due.BAD);
        due.is("m 0", x.unseen(0, 0, 0), Due.BAD);
        due.is("m 14", x.unseen(0, 14, 0), Due.BAD);
        due.is("what 2", x.unseen(0, 1, 2), Due.BAD);
        due.is("what -1", x.unseen(0, 1, -1), Due.BAD);
        x.row(2, 0, 40);
        due.is("thirteen days", x.unseen(2, 13, 0), 1);
        due.is("all five", x.unseen(2, 13, 1), 5);
        x.set(2, 36, 99);
        due.is("the last of thirteen", x.unseen(2, 13, 0), 1 | 1 << 12);
        due.is("99 more", x.unseen(2, 13, 1), 104);
        x.set(2, 38, 100);
        due.is("an item of 100", x.unseen(2, 13, 1), Due.BAD);
        x.set(2, 38, -1);
        due.is("an item of -1", x.unseen(2, 13, 1), Due.BAD);
        due.is("not looked at", x.unseen(2, 12, 1), 5);
        x.smuggle(0);
        due.is("from how many there are now", x.unseen(2, 12, 1), 4);
    }

    private static void gates() {
        AsManyAsCame x = new AsManyAsCame();
        due.is("n 0", x.gates(5, 7, 50, 0), 5);
        due.is("n 1", x.gates(5, 7, 50, 1), 3);
        due.is("n 2", x.gates(5, 7, 50, 2), 1);
        due.is("cut", x.gates(0, 999, 1, 1), 989);
        due.is("none stays", x.gates(1, 2, 0, 1000), 1);
        due.is("odd days", x.gates(1, 2, 0, 999), 2);
        due.is("all stay", x.gates(9, 9, 100, 1), 0);
        due.is("x -1", x.gates(-1, 0, 0, 0), Due.BAD);
        due.is("x 1000", x.gates(1000, 0, 0, 0), Due.BAD);
        due.is("y -1", x.gates(0, -1, 0, 0), Due.BAD);
        due.is("y 1000", x.gates(0, 1000, 0, 0), Due.BAD);
        due.is("k -1", x.gates(0, 0, -1, 0), Due.BAD);
        due.is("k 101", x.gates(0, 0, 101, 0), Due.BAD);
        due.is("n -1", x.gates(0, 0, 0, -1), Due.BAD);
        due.is("n 1001", x.gates(0, 0, 0, 1001), Due.BAD);
    }
}
