/** Promises 24 to 29: kinds, asks, the trace, counts, and the status of as(). */
final class AskedTest {
    private static final Due due = new Due("AskedTest");
    private static final String ALL = "town list 8 3 1;person pilgrim 2 30;person hired 3 40;"
            + "person called 4 50;person born 5 60;person smuggled 6 70;";

    public static void main(String[] args) {
        kind();
        as();
        ask();
        kindsThatChange();
        trace();
        count();
        status();
        due.end();
    }

    private static void kind() {
        AsManyAsCame x = Due.of(ALL);
        int[] want = {1, 2, 3, 4, 5};
        for (int person = 0; person < 5; person++) {
            due.is("kind", x.kind(person), want[person]);
        }
        due.is("kind(-1)", x.kind(-1), Due.BAD);
        due.is("kind(5)", x.kind(5), Due.BAD);
        x.smuggle(1);
        due.is("of one who is out", x.kind(1), 2);
        x.day(2, 1);
        due.is("of a pilgrim that came", x.kind(5), 1);
        due.is("of a hired one that came", x.kind(6), 2);
    }

    private static void as() {
        AsManyAsCame x = Due.of(ALL);
        int[] bits = {0b000011, 0b000111, 0b001011, 0b010001, 0b110001};
        for (int person = 0; person < 5; person++) {
            for (int kind = 0; kind < 6; kind++) {
                boolean is = (bits[person] >> kind & 1) == 1;
                due.is("as(" + person + ", " + kind + ")", x.as(person, kind), is ? person : Due.KIND);
                due.is("status", x.status(), is ? 0 : 3);
            }
        }
        due.is("kind -1", x.as(0, -1), Due.BAD);
        due.is("kind 6", x.as(0, 6), Due.BAD);
        due.is("person -1", x.as(-1, 0), Due.BAD);
        due.is("person 5", x.as(5, 0), Due.BAD);
        due.is("nothing changes", x.kind(1), 2);
        x.smuggle(4);
        due.is("one who is out", x.as(4, 4), 4);
    }

    private static void asked(AsManyAsCame x, int person, int what, int answer, int... trace) {
        String call = "ask(" + person + ", " + what + ")";
        due.is(call, x.ask(person, what), answer);
        due.are("trace of " + call, Due.trace(x), trace);
    }

    private static void ask() {
        AsManyAsCame x = Due.of(ALL);
        asked(x, 0, 0, 30 + 200, 11, 10, 21, 20);
        asked(x, 0, 1, 200, 21, 20);
        asked(x, 1, 0, -(40 + 301), 12, 11, 10, 21, 20);
        asked(x, 1, 1, 301, 21, 20);
        asked(x, 2, 0, 50 + 402 - 1000, 11, 10, 22, 21, 20);
        asked(x, 2, 1, 402 - 1000, 22, 21, 20);
        asked(x, 3, 0, 60 - 100, 13, 10);
        asked(x, 3, 1, 3 + 40, 23, 20, 13, 10);
        asked(x, 4, 0, 2 * (70 - 100), 14, 13, 10);
        asked(x, 4, 1, 4 + 60, 23, 20, 14, 13, 10);
        due.is("what 2", x.ask(0, 2), Due.BAD);
        due.is("what -1", x.ask(0, -1), Due.BAD);
        due.is("person 5", x.ask(5, 0), Due.BAD);
        due.is("person -1", x.ask(-1, 0), Due.BAD);
        due.are("refused: the trace stays", Due.trace(x), 23, 20, 14, 13, 10);
        x.smuggle(1);
        asked(x, 1, 1, 301, 21, 20);
    }

    private static void kindsThatChange() {
        AsManyAsCame x = Due.of(ALL);
        x.smuggle(4);
        x.call(4);
        asked(x, 4, 0, 70 + 604 - 1000, 11, 10, 22, 21, 20);
        due.is("born", x.born(), 5);
        asked(x, 5, 0, -100, 13, 10);
        asked(x, 5, 1, 105, 23, 20, 13, 10);
        x.day(2, 1);
        asked(x, 6, 0, 6, 11, 10, 21, 20);
        asked(x, 7, 0, -7, 12, 11, 10, 21, 20);
    }

    private static void trace() {
        AsManyAsCame x = Due.of(ALL);
        due.is("none yet", x.trace(0), Due.NONE);
        x.ask(1, 0);
        due.is("4", x.trace(4), 20);
        due.is("5", x.trace(5), Due.NONE);
        due.is("-1", x.trace(-1), Due.NONE);
        due.is("15", x.trace(15), Due.NONE);
        due.is("16", x.trace(16), Due.NONE);
        due.is("most", x.trace(Integer.MAX_VALUE), Due.NONE);
        due.is("least", x.trace(Integer.MIN_VALUE), Due.NONE);
        x.ask(3, 0);
        due.is("empty ahead of an ask", x.trace(2), Due.NONE);
        x.image(0);
        x.restore(0);
        x.day(0, 0);
        due.are("nothing else empties it", Due.trace(x), 13, 10);
    }

    private static void count() {
        AsManyAsCame x = Due.of(ALL);
        x.row(0, 0, 1);
        x.row(7, 0, 0);
        x.feed(0, 2);
        x.born();
        x.smuggle(5);
        x.day(4, 3);
        due.are("counts", Due.counts(x), 2, 10, 8, 1, 0, 9, 0, 4, 2);
        x.day(0, 0);
        due.are("a hungry day", Due.counts(x), 2, 10, 4, 2, 0, 9, 1, 0, 2);
        due.is("-1", x.count(-1), Due.BAD);
        due.is("9", x.count(9), Due.BAD);
    }

    private static void status() {
        AsManyAsCame x = Due.of(ALL);
        x.as(0, 4);
        due.is("3", x.status(), 3);
        x.as(0, 6);
        x.as(9, 0);
        due.is("BAD leaves it", x.status(), 3);
        x.kind(9);
        x.ask(9, 9);
        x.smuggle(0);
        x.smuggle(0);
        x.out(0, 0, 1);
        due.is("refusals of others leave it", x.status(), 3);
        x.row(0, 0, 3);
        due.is("0", x.status(), 0);
        x.hire(1, 1, 1);
        due.is("hire", x.status(), 1);
        x.hire(1, 0, 1);
        due.is("hire holds", x.status(), 0);
        x.lasts(0, 4);
        due.is("lasts", x.status(), 2);
        x.lasts(0, 3);
        due.is("lasts holds", x.status(), 0);
        x.unseen(1, 1, 0);
        due.is("unseen", x.status(), 1);
        x.unseen(0, 1, 0);
        due.is("unseen holds", x.status(), 0);
        x.odds(1, 0, 1, 1, 0);
        due.is("odds", x.status(), 1);
        x.odds(1, 0, 0, 1, 0);
        due.is("odds holds", x.status(), 0);
        x.span(1, 0, 0, 4, 0);
        due.is("span", x.status(), 2);
        x.span(1, 0, 0, 3, 0);
        due.is("span holds", x.status(), 0);
    }
}
