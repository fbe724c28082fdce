/** Promises 9 to 13: days, those born, smuggled, called back, and what is told of one. */
final class DaysTest {
    private static final Due due = new Due("DaysTest");

    public static void main(String[] args) {
        byList();
        byRank();
        byKind();
        bread();
        refused();
        full();
        born();
        smuggle();
        call();
        person();
        due.end();
    }

    private static void byList() {
        AsManyAsCame x = Due.of("town list 99 7 2;person born 0 1;person pilgrim 9 2;person called 5 3;");
        due.is("two go out", x.day(3, 2), 2);
        due.are("who is in", Due.places(x, 3), Due.NONE, Due.NONE, 0, 1, 2, 3);
        due.are("kinds", Due.places(x, 0), 4, 1, 3, 1, 2, 2);
        due.are("ranks", Due.places(x, 1), 0, 9, 5, 0, 0, 0);
        due.are("hastes", Due.places(x, 2), 1, 2, 3, 0, 0, 0);
        due.are("days", Due.places(x, 5), 1, 1, Due.NONE, Due.NONE, Due.NONE, Due.NONE);
        due.are("counts", Due.counts(x), 0, 6, 4, 1, 95, 14, 0, 3, 0);
        due.is("three go out", x.day(0, 0), 3);
        due.are("the last is in", Due.places(x, 3), Due.NONE, Due.NONE, Due.NONE, Due.NONE, Due.NONE, 0);
        due.are("days", Due.places(x, 5), 1, 1, 2, 2, 2, Due.NONE);
        due.is("none goes out", x.day(20, 20), 0);
        due.is("twenty go out", x.day(0, 0), 20);
        due.is("day of number 5", x.person(5, 5), 4);
        due.is("count(5)", x.count(5), 14 + 140);
        AsManyAsCame few = Due.of("town list 9 9 20;person born 0 0;person born 0 0;");
        due.is("fewer, if there are not so many", few.day(1, 0), 2);
        due.is("who came that day did not go", few.person(2, 3), 0);
    }

    private static void byRank() {
        AsManyAsCame x = Due.of("town rank 99 1 3;person born 0 0;person pilgrim 4 0;person hired 9 0;"
                + "person called 4 0;person pilgrim 4 0;person smuggled 0 0;");
        due.are("by rank", Due.places(x, 4), 4, 1, 0, 2, 3, 5);
        due.is("three go", x.day(3, 1), 3);
        due.are("the list", Due.places(x, 3), 0, Due.NONE, Due.NONE, Due.NONE, 1, 2, 3, 4, 5);
        due.are("by rank behind it", Due.places(x, 4), 1, Due.NONE, Due.NONE, Due.NONE, 0, 2, 3, 4, 5);
        due.is("three more", x.day(0, 0), 3);
        due.are("who is left", Due.places(x, 3), Due.NONE, Due.NONE, Due.NONE, Due.NONE, Due.NONE, Due.NONE, 0, 1, 2);
    }

    private static void byKind() {
        AsManyAsCame x = Due.of("town kind 99 1 2;person born 9 0;person smuggled 8 0;person hired 7 0;"
                + "person pilgrim 6 0;person called 0 0;person born 9 0;person smuggled 8 0;person hired 7 0;"
                + "person pilgrim 6 0;person called 0 0;");
        due.are("by kind", Due.places(x, 4), 8, 6, 4, 2, 0, 9, 7, 5, 3, 1);
        due.is("two go", x.day(3, 1), 2);
        due.are("the called ones", Due.places(x, 5), Due.NONE, Due.NONE, Due.NONE, Due.NONE, 1, Due.NONE,
                Due.NONE, Due.NONE, Due.NONE, 1, Due.NONE, Due.NONE, Due.NONE);
        due.are("who comes goes ahead", Due.places(x, 4), 9, 7, 4, 0, Due.NONE, 10, 8, 5, 1, Due.NONE, 2, 3, 6);
        due.is("three go", x.day(0, 0), 3);
        due.is("number 10 is out", x.person(10, 5), 2);
        due.is("number 11 is in", x.person(11, 4), 0);
    }

    private static void bread() {
        AsManyAsCame x = Due.of("town list 5 0 0;person born 0 0;person born 0 0;");
        x.day(1, 0);
        due.is("three eat", x.count(4), 2);
        x.day(0, 0);
        due.is("two eat just all", x.count(4), 0);
        due.is("no hungry day", x.count(6), 0);
        x.day(0, 0);
        due.is("hungry", x.count(6), 1);
        AsManyAsCame y = Due.of("town list 3 0 0;person born 0 0;person born 0 0;person born 0 0;");
        y.day(1, 0);
        due.is("too little: it stays", y.count(4), 3);
        due.is("a hungry day", y.count(6), 1);
        AsManyAsCame z = Due.of("town list 0 0 1;person born 0 0;");
        z.day(0, 0);
        due.is("nobody is not hungry", z.count(6), 0);
    }

    private static void refused() {
        AsManyAsCame x = new AsManyAsCame();
        due.is("STATE ahead of BAD", x.day(-1, 0), Due.STATE);
        Due.read(x, "town list 9 9 1;person born 0 0;");
        due.is("n -1", x.day(-1, 0), Due.BAD);
        due.is("n 21", x.day(21, 0), Due.BAD);
        due.is("h -1", x.day(1, -1), Due.BAD);
        due.is("h above n", x.day(1, 2), Due.BAD);
        due.is("h of none", x.day(0, 1), Due.BAD);
        due.are("nothing changes", Due.counts(x), 0, 1, 1, 0, 9, 0, 0, 1, 0);
        due.is("n 20, h 20", x.day(20, 20), 1);
    }

    private static void full() {
        AsManyAsCame x = Due.of("town list 999 1 0;");
        x.day(20, 0);
        x.day(20, 0);
        x.day(19, 0);
        due.is("by more than 60", x.day(2, 1), Due.FULL);
        due.is("BAD ahead of FULL", x.day(2, 3), Due.BAD);
        due.are("not done", Due.counts(x), 0, 59, 19, 3, 999 - 20 - 20 - 19, 0, 0, 19, 0);
        due.is("to 60", x.day(1, 1), 19);
        due.is("number 59", x.person(59, 0), 2);
        due.is("none fits", x.day(1, 0), Due.FULL);
        due.is("a day on which none comes", x.day(0, 0), 1);
        due.is("born", x.born(), Due.FULL);
        due.is("numbers stay 60 though all are out", x.count(1), 60);
        due.is("call", x.call(0), 0);
    }

    private static void born() {
        AsManyAsCame x = Due.of("town kind 9 9 1;person pilgrim 3 3;");
        due.is("his number", x.born(), 1);
        due.is("the next", x.born(), 2);
        due.are("kinds", Due.places(x, 0), 1, 4, 4);
        due.are("places", Due.places(x, 3), 0, 1, 2);
        due.is("rank", x.person(1, 1), 0);
        due.is("haste", x.person(1, 2), 0);
        due.are("he counts as none that came", Due.counts(x), 0, 3, 3, 0, 9, 0, 0, 1, 0);
        due.is("one goes out", x.day(0, 0), 1);
        due.is("none goes out", x.day(0, 0), 0);
    }

    private static void smuggle() {
        AsManyAsCame x = Due.of("town list 9 9 1;person pilgrim 3 3;person hired 2 2;person born 0 0;");
        due.is("smuggle", x.smuggle(1), 1);
        due.is("his kind stays", x.kind(1), 2);
        due.are("places", Due.places(x, 3), 0, Due.NONE, 1);
        due.are("who goes", Due.places(x, 4), 0, Due.NONE, 1);
        due.is("no day", x.person(1, 5), Due.NONE);
        due.is("again", x.smuggle(1), Due.STATE);
        due.is("-1", x.smuggle(-1), Due.BAD);
        due.is("3", x.smuggle(3), Due.BAD);
        due.is("beside all that: one goes out", x.day(0, 0), 1);
        due.is("who went out", x.smuggle(0), Due.STATE);
        due.is("the last", x.smuggle(2), 1);
        due.is("nobody is in", x.count(2), 0);
        due.is("numbers", x.count(1), 3);
    }

    private static void call() {
        AsManyAsCame x = Due.of("town list 99 9 1;person pilgrim 3 4;person hired 2 2;person born 0 0;");
        due.is("who is in", x.call(0), Due.STATE);
        due.is("-1", x.call(-1), Due.BAD);
        due.is("3", x.call(3), Due.BAD);
        x.day(0, 0);
        x.smuggle(1);
        due.is("one who went out", x.call(0), 1);
        due.is("one smuggled", x.call(1), 2);
        due.are("kinds", Due.places(x, 0), 3, 3, 4);
        due.are("places", Due.places(x, 3), 1, 2, 0);
        due.are("no day", Due.places(x, 5), Due.NONE, Due.NONE, Due.NONE);
        due.is("rank stays", x.person(0, 1), 3);
        due.is("haste stays", x.person(0, 2), 4);
        due.is("counts as none that came", x.day(0, 0), 0);
        due.is("CAME", x.count(7), 0);
        x.day(1, 0);
        x.day(0, 0);
        due.is("the first is out", x.person(2, 5), 4);
        x.call(2);
        x.smuggle(2);
        due.is("smuggled behind a day out: no day", x.person(2, 5), Due.NONE);
    }

    private static void person() {
        AsManyAsCame x = Due.of("town rank 99 9 1;person pilgrim 3 4;person smuggled 5 6;");
        due.is("kind", x.person(1, 0), 5);
        due.is("rank", x.person(1, 1), 5);
        due.is("haste", x.person(1, 2), 6);
        due.is("place", x.person(1, 3), 1);
        due.is("by who goes", x.person(1, 4), 0);
        due.is("in", x.person(1, 5), Due.NONE);
        due.is("what -1", x.person(1, -1), Due.BAD);
        due.is("what 6", x.person(1, 6), Due.BAD);
        due.is("person -1", x.person(-1, 0), Due.BAD);
        due.is("person 2", x.person(2, 0), Due.BAD);
        due.is("person most", x.person(Integer.MAX_VALUE, 0), Due.BAD);
        x.day(0, 0);
        due.is("out: kind", x.person(1, 0), 5);
        due.is("out: place", x.person(1, 3), Due.NONE);
        due.is("out: by who goes", x.person(1, 4), Due.NONE);
        due.is("out: the day", x.person(1, 5), 1);
    }
}
