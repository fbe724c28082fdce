/** Promises 1 to 5, and 29 as far as ROWS go. */
final class RowsTest {
    private static final Due due = new Due("RowsTest");

    public static void main(String[] args) {
        constants();
        aNewObject();
        row();
        set();
        copy();
        drop();
        status();
        due.end();
    }

    private static void constants() {
        due.is("NONE", AsManyAsCame.NONE, -1000000);
        due.is("BAD", AsManyAsCame.BAD, -1000001);
        due.is("STATE", AsManyAsCame.STATE, -1000002);
        due.is("FULL", AsManyAsCame.FULL, -1000003);
    }

    private static void aNewObject() {
        AsManyAsCame x = new AsManyAsCame();
        due.are("counts of a new object", Due.counts(x), 0, 0, 0, 0, 0, 0, 0, 0, 0);
        due.is("fault", x.fault(), 0);
        due.is("status", x.status(), 0);
        due.is("trace", x.trace(0), Due.NONE);
        due.is("day", x.day(0, 0), Due.STATE);
        due.is("born", x.born(), Due.STATE);
        due.is("person", x.person(0, 0), Due.BAD);
        due.is("image", x.image(0), Due.STATE);
        for (int row = 0; row < 8; row++) {
            due.is("drop of a row that is missing at first", x.drop(row), Due.NULL);
        }
    }

    private static void row() {
        AsManyAsCame x = new AsManyAsCame();
        due.is("row(0,0,0)", x.row(0, 0, 0), 0);
        due.is("row(7,2,40)", x.row(7, 2, 40), 40);
        due.is("row(3,1,1)", x.row(3, 1, 1), 1);
        due.is("count(0)", x.count(0), 3);
        due.is("row(-1,..)", x.row(-1, 0, 1), Due.BAD);
        due.is("row(8,..)", x.row(8, 0, 1), Due.BAD);
        due.is("lane -1", x.row(0, -1, 1), Due.BAD);
        due.is("lane 3", x.row(0, 3, 1), Due.BAD);
        due.is("n 41", x.row(0, 0, 41), Due.BAD);
        due.is("n huge", x.row(0, 0, Integer.MAX_VALUE), Due.BAD);
        due.is("n -1", x.row(0, 0, -1), Due.SIZE);
        due.is("n least", x.row(0, 0, Integer.MIN_VALUE), Due.SIZE);
        due.is("BAD ahead of SIZE: row", x.row(8, 0, -1), Due.BAD);
        due.is("BAD ahead of SIZE: lane", x.row(0, 3, -1), Due.BAD);
        due.is("a found row changes nothing", x.drop(7), 40);
        due.is("count(0) behind it", x.count(0), 2);
        due.is("a missing row stays missing behind SIZE", x.row(7, 0, -1), Due.SIZE);
        due.is("drop of it", x.drop(7), Due.NULL);
        Due.fill(x, 2, 2, 5, 6, 7);
        due.is("a row in place of one", x.row(2, 2, 3), 3);
        x.row(4, 2, 3);
        x.copy(2, 0, 4, 0, 3);
        Due.fill(x, 5, 2, 9, 9, 9);
        Due.read(x, "town list 0 0 0; person pilgrim 0 0;");
        due.is("its items are 0: nobody comes", x.out(0, 2, 3), Due.NONE);
        due.is("items set are told from them", x.out(0, 5, 3), 2);
    }

    private static void set() {
        AsManyAsCame x = new AsManyAsCame();
        x.row(0, 0, 2);
        x.row(1, 1, 40);
        x.row(2, 2, 1);
        due.is("byte", x.set(0, 0, 127), 127);
        due.is("byte 128", x.set(0, 1, 128), -128);
        due.is("byte 255", x.set(0, 1, 255), -1);
        due.is("byte 256", x.set(0, 1, 256), 0);
        due.is("byte -129", x.set(0, 1, -129), 127);
        due.is("short 32767", x.set(1, 39, 32767), 32767);
        due.is("short 32768", x.set(1, 39, 32768), -32768);
        due.is("short 65537", x.set(1, 0, 65537), 1);
        due.is("short -32769", x.set(1, 0, -32769), 32767);
        due.is("int", x.set(2, 0, Integer.MIN_VALUE), Integer.MIN_VALUE);
        due.is("int most", x.set(2, 0, Integer.MAX_VALUE), Integer.MAX_VALUE);
        due.is("set(-1)", x.set(-1, 0, 0), Due.BAD);
        due.is("set(8)", x.set(8, 0, 0), Due.BAD);
        due.is("NULL", x.set(3, 0, 0), Due.NULL);
        due.is("NULL ahead of PLACE", x.set(3, -1, 0), Due.NULL);
        due.is("PLACE -1", x.set(0, -1, 0), Due.PLACE);
        due.is("PLACE 2", x.set(0, 2, 0), Due.PLACE);
        due.is("PLACE most", x.set(0, Integer.MAX_VALUE, 0), Due.PLACE);
        x.row(4, 0, 0);
        due.is("no place in an empty row", x.set(4, 0, 0), Due.PLACE);
    }

    /** What stands in a row is seen by unseen(): counted 0, came ITEM, went out 0: so many left. */
    private static int item(AsManyAsCame x, int row, int i) {
        x.row(7, 0, 3);
        int copied = x.copy(row, i, 7, 0, 1);
        return copied == 1 ? x.unseen(7, 1, 1) : copied;
    }

    private static void items(AsManyAsCame x, String what, int row, int... want) {
        for (int i = 0; i < want.length; i++) {
            due.is(what + " item " + i, item(x, row, i), want[i]);
        }
    }

    private static void copy() {
        AsManyAsCame x = Due.of("town list 0 0 0;");
        Due.fill(x, 0, 0, 1, 2, 3, 4, 5);
        due.is("copy up", x.copy(0, 0, 0, 1, 4), 4);
        items(x, "copied up", 0, 1, 1, 2, 3, 4);
        Due.fill(x, 0, 0, 1, 2, 3, 4, 5);
        due.is("copy down", x.copy(0, 1, 0, 0, 4), 4);
        items(x, "copied down", 0, 2, 3, 4, 5, 5);
        Due.fill(x, 1, 0, 11, 12, 13);
        due.is("copy to another", x.copy(1, 1, 0, 3, 2), 2);
        items(x, "copied to another", 0, 2, 3, 4, 12, 13);
        items(x, "copied from", 1, 11, 12, 13);
        due.is("all of it on itself", x.copy(1, 0, 1, 0, 3), 3);
        items(x, "on itself", 1, 11, 12, 13);
        due.is("none at the ends", x.copy(0, 5, 1, 3, 0), 0);
        due.is("beyond a's end", x.copy(0, 6, 1, 0, 0), Due.PLACE);
        due.is("beyond b's end", x.copy(0, 0, 1, 4, 0), Due.PLACE);
        due.is("more than a has", x.copy(0, 3, 1, 0, 3), Due.PLACE);
        due.is("more than b has", x.copy(0, 0, 1, 1, 3), Due.PLACE);
        due.is("i -1", x.copy(0, -1, 1, 0, 1), Due.PLACE);
        due.is("j -1", x.copy(0, 0, 1, -1, 1), Due.PLACE);
        due.is("n -1", x.copy(0, 0, 1, 0, -1), Due.PLACE);
        due.is("i and n wrap", x.copy(0, 1, 1, 0, Integer.MAX_VALUE), Due.PLACE);
        due.is("i most", x.copy(0, Integer.MAX_VALUE, 1, 0, 1), Due.PLACE);
        due.is("n least", x.copy(0, 0, 1, 0, Integer.MIN_VALUE), Due.PLACE);
        items(x, "a found copy changes nothing", 0, 2, 3, 4, 12, 13);
        x.row(2, 1, 3);
        due.is("STORE", x.copy(0, 0, 2, 0, 1), Due.STORE);
        due.is("STORE of none", x.copy(0, 0, 2, 0, 0), Due.STORE);
        due.is("STORE ahead of PLACE", x.copy(0, -1, 2, 0, 1), Due.STORE);
        due.is("a missing", x.copy(3, 0, 0, 0, 1), Due.NULL);
        due.is("b missing", x.copy(0, 0, 3, 0, 1), Due.NULL);
        due.is("NULL ahead of PLACE", x.copy(0, -1, 3, 0, 1), Due.NULL);
        due.is("a BAD", x.copy(8, 0, 3, 0, 1), Due.BAD);
        due.is("b BAD", x.copy(3, 0, -1, 0, 1), Due.BAD);
    }

    private static void drop() {
        AsManyAsCame x = new AsManyAsCame();
        x.row(6, 1, 17);
        due.is("drop", x.drop(6), 17);
        due.is("count(0)", x.count(0), 0);
        due.is("drop again", x.drop(6), Due.NULL);
        due.is("set behind drop", x.set(6, 0, 1), Due.NULL);
        due.is("drop(-1)", x.drop(-1), Due.BAD);
        due.is("drop(8)", x.drop(8), Due.BAD);
        due.is("a row again", x.row(6, 0, 0), 0);
        due.is("drop of an empty row", x.drop(6), 0);
    }

    private static void status() {
        AsManyAsCame x = Due.of("town list 9 9 1; person born 0 0;");
        due.is("NULL", x.drop(0), Due.NULL);
        due.is("status 1", x.status(), 1);
        due.is("BAD leaves it", x.set(9, 0, 0), Due.BAD);
        due.is("still 1", x.status(), 1);
        x.row(0, 0, 1);
        due.is("status 0", x.status(), 0);
        x.set(0, 1, 0);
        due.is("status 2", x.status(), 2);
        x.as(0, 1);
        due.is("status 3", x.status(), 3);
        x.row(0, 0, -1);
        due.is("status 4", x.status(), 4);
        x.row(1, 1, 1);
        x.copy(0, 0, 1, 0, 1);
        due.is("status 5", x.status(), 5);
        x.count(0);
        x.kind(0);
        x.ask(0, 0);
        x.swaps(0, 0);
        x.gates(1, 1, 1, 1);
        x.image(0);
        x.restore(0);
        x.feed(0, 1);
        x.town();
        due.is("calls without a row leave it", x.status(), 5);
        x.day(0, 0);
        x.born();
        due.is("days, too", x.status(), 5);
        x.as(1, 4);
        due.is("as() that holds", x.status(), 0);
    }
}
