/** Promises 6 to 8: the tape, the text of a town and its faults. */
final class TextsTest {
    private static final Due due = new Due("TextsTest");
    private static final String HEAD = "town list 10 5 3;";

    public static void main(String[] args) {
        feed();
        towns();
        blanks();
        faults();
        tooMany();
        theFirstFault();
        whatStays();
        due.end();
    }

    private static void feed() {
        AsManyAsCame x = new AsManyAsCame();
        due.is("n 0", x.feed(1, 0), Due.BAD);
        due.is("n 9", x.feed(1, 9), Due.BAD);
        due.is("n -1", x.feed(1, -1), Due.BAD);
        due.is("one", x.feed('t', 1), 1);
        due.is("the lowest three, highest first", x.feed(0x7a6f776eL, 3), 4);
        due.is("count(8)", x.count(8), 4);
        Due.feed(x, " list 0 0 0;");
        due.is("the bytes stood in that order", x.town(), 0);
        due.is("the tape is empty", x.count(8), 0);
        for (int i = 1; i <= 62; i++) {
            due.is("eight more", x.feed(0x2020202020202020L, 8), 8 * i);
        }
        due.is("five do not fit", x.feed(0, 5), Due.FULL);
        due.is("BAD ahead of FULL", x.feed(0, 9), Due.BAD);
        due.is("none came", x.count(8), 496);
        due.is("four fit", x.feed(0x20202020L, 4), 500);
        due.is("full", x.feed(0, 1), Due.FULL);
        due.is("the end of blanks", x.town(), -1000600);
    }

    private static void towns() {
        AsManyAsCame x = new AsManyAsCame();
        due.is("no people", Due.read(x, "town kind 999 99 20;"), 0);
        due.are("its counts", Due.counts(x), 0, 0, 0, 0, 999, 0, 0, 20, 0);
        due.is("it stands", x.born(), 0);
        due.is("all kinds", Due.read(x, "town rank 007 9 0;person pilgrim 1 2;person hired 3 4;"
                + "person born 5 6;person smuggled 7 8;person called 9 99;"), 5);
        due.are("kinds", Due.places(x, 0), 1, 2, 4, 5, 3);
        due.are("ranks", Due.places(x, 1), 1, 3, 5, 7, 9);
        due.are("hastes", Due.places(x, 2), 2, 4, 6, 8, 99);
        due.are("the list is by numbers", Due.places(x, 3), 0, 1, 2, 3, 4);
        due.are("by rank", Due.places(x, 4), 4, 3, 2, 1, 0);
        due.are("counts", Due.counts(x), 0, 5, 5, 0, 7, 0, 0, 0, 0);
        due.is("pay is told", x.day(2, 2), 0);
        due.is("spent", x.count(5), 18);
        due.is("in place of the one before", Due.read(x, "town list 1 1 1;person born 0 0;"), 1);
        due.are("counts of the new one", Due.counts(x), 0, 1, 1, 0, 1, 0, 0, 1, 0);
    }

    private static void blanks() {
        AsManyAsCame x = new AsManyAsCame();
        due.is("none but where one is needed", Due.read(x, "town list1 2 3;person pilgrim4 5;person born6 7;"), 2);
        due.is("as many as wanted", Due.read(x, " \n town\n\nlist  10\n5 3 ;\n person  pilgrim\n1 2 ; \n"), 1);
        due.is("a number that ends at a name", Due.read(x, "town list 10 5 3;person pilgrim 1 2;"), 1);
        due.is("two names without", Due.read(x, "townlist 1 1 1;"), -1000100);
        due.is("two numbers without are one", Due.read(x, "town list 105 3;"), -1000115);
        due.is("a tab is none", Due.read(x, "town\tlist 1 1 1;"), -1000104);
        due.is("byte 13 is none", Due.read(x, "town list 1 1 1;\r"), -1000116);
        due.is("byte 0 is none", Due.read(x, HEAD + (char) 0), -1000117);
        due.is("byte 255 is none", Due.read(x, (char) 255 + HEAD), -1000100);
        due.is("great letters are none", Due.read(x, "Town list 1 1 1;"), -1000100);
        due.is("a sign inside a word ends it", Due.read(x, "town li;st 1 1 1;"), -1000105);
    }

    private static void fault(String text, int place, int number) {
        AsManyAsCame x = new AsManyAsCame();
        due.is("'" + text + "'", Due.read(x, text), -1000100 - place);
        due.is("fault of '" + text + "'", x.fault(), number);
        due.is("no town by '" + text + "'", x.born(), Due.STATE);
        due.is("the tape is empty behind '" + text + "'", x.count(8), 0);
    }

    private static void faults() {
        fault("", 0, 1);
        fault("  ", 2, 1);
        fault("town", 4, 1);
        fault("town \n", 6, 1);
        fault("ton list 1 1 1;", 0, 1);
        fault("down list 1 1 1;", 0, 1);
        fault("townz list 1 1 1;", 0, 1);
        fault("town` list 1 1 1;", 4, 1);
        fault("town{ list 1 1 1;", 4, 1);
        fault("town list 1/ 1 1;", 11, 1);
        fault("town list 1: 1 1;", 11, 1);
        fault("person born 1 1;", 0, 1);
        fault("; town", 0, 1);
        fault("town born 1 1 1;", 5, 1);
        fault("town pilgrim 1 1 1;", 5, 1);
        fault("town 1 1 1;", 5, 1);
        fault("town lis 1 1 1;", 5, 1);
        fault("town lists 1 1 1;", 5, 1);
        fault("town list 1000 1 1;", 10, 1);
        fault("town list 0001 1 1;", 10, 1);
        fault("town list x 1 1;", 10, 1);
        fault("town list 1 100 1;", 12, 2);
        fault("town list 1 1000 1;", 12, 1);
        fault("town list 1 1 21;", 14, 2);
        fault("town list 1 1 020;x", 18, 1);
        fault("town list 1 1 1", 15, 1);
        fault("town list 1 1 1 1;", 16, 1);
        fault("town list 1 1 1;;", 16, 1);
        fault("town list 1 1 1; town list 1 1 1;", 17, 1);
        fault("town list 1 1 -1;", 14, 1);
        fault(HEAD + "persons born 1 1;", 17, 1);
        fault(HEAD + "5", 17, 1);
        fault(HEAD + "1234", 17, 1);
        fault(HEAD + "person", 23, 1);
        fault(HEAD + "person list 1 1;", 24, 1);
        fault(HEAD + "person person 1 1;", 24, 1);
        fault(HEAD + "person 1 1;", 24, 1);
        fault(HEAD + "person born 10 1;", 29, 2);
        fault(HEAD + "person born 9 100;", 31, 2);
        fault(HEAD + "person born 9 9999;", 31, 1);
        fault(HEAD + "person born 9 99", 33, 1);
        fault(HEAD + "person born 9 99 person", 34, 1);
        fault(HEAD + "person born 9;", 30, 1);
        fault(HEAD + "person born 9 99; per", 35, 1);
    }

    private static void tooMany() {
        String one = "person born 1 1;";
        AsManyAsCame x = new AsManyAsCame();
        due.is("24", Due.read(x, HEAD + Due.many(one, 24)), 24);
        due.is("25", Due.read(x, HEAD + Due.many(one, 25)), -1000100 - 17 - 24 * 16);
        due.is("its fault", x.fault(), 3);
        due.is("24 stay", x.count(1), 24);
        due.is("its word alone", Due.read(x, HEAD + Due.many(one, 24) + " person"), -1000100 - 17 - 24 * 16 - 1);
        due.is("fault 3", x.fault(), 3);
        due.is("another word there", Due.read(x, HEAD + Due.many(one, 24) + "people"), -1000100 - 17 - 24 * 16);
        due.is("fault 1", x.fault(), 1);
        due.is("a fault ahead of it", Due.read(x, HEAD + Due.many(one, 23) + "person born 1 100;person"),
                -1000100 - 17 - 23 * 16 - 14);
        due.is("fault 2", x.fault(), 2);
    }

    private static void theFirstFault() {
        fault("town list 1 100 99 x", 12, 2);
        fault("town list 1000 100 99 x", 10, 1);
        fault("town list 1 1 99 ?", 14, 2);
        fault(HEAD + "person born 99 1000", 29, 2);
    }

    private static void whatStays() {
        AsManyAsCame x = new AsManyAsCame();
        due.is("fault 0", x.fault(), 0);
        Due.read(x, "town list 10 5 3;person hired 1 2;");
        due.is("fault still 0", x.fault(), 0);
        Due.fill(x, 1, 1, 7, 8);
        x.image(1);
        x.day(2, 1);
        x.ask(0, 1);
        int[] before = Due.counts(x);
        due.is("a fault", Due.read(x, "town kind 1 1 1; person called 1 1; person"), -1000142);
        due.are("all stays", Due.counts(x), before);
        due.is("his kind", x.kind(1), 1);
        due.are("the trace", Due.trace(x), 21, 20);
        due.is("fault", x.fault(), 1);
        Due.read(x, "town list 10 100 1;");
        due.is("the latest", x.fault(), 2);
        due.is("a town", Due.read(x, "town list 1 1 1;"), 0);
        due.is("it is kept behind a town", x.fault(), 2);
        due.is("rows stay", x.drop(1), 2);
        due.are("the trace stays", Due.trace(x), 21, 20);
        due.is("images stay", x.restore(1), 1);
        due.are("counts of the image", Due.counts(x), 0, 1, 1, 0, 10, 0, 0, 3, 0);
    }
}
