/** Edges of promises 9 to 13 and of the terms on THE LIST and the DAYS. */
final class DayEdges extends Edges {
    static void all() {
        theList();
        byList();
        byRank();
        byKind();
        whoCome();
        whoGoOut();
        whoStandBehind();
        moreThanSixty();
        pay();
        bread();
        cameIsN();
        bornBehindTheLast();
        smuggledOut();
        calledBack();
        howManyWentOut();
        numbersOfDay();
        dayWithoutTown();
        fullDay();
        hisNumber();
        bornWithoutTown();
        sixtyNumbers();
        smuggled();
        whomToSmuggle();
        outAlready();
        whereHeStands();
        whomToCall();
        inAlready();
        ofOne();
        placesOfOne();
        dayOfOne();
        nobodyToTellOf();
    }

    private static void theList() {
        terms("THE LIST is of all who are in the town.");
        AsManyAsCame x = Due.of("town list 99 3 1;" + FIVE);
        x.day(0, 0);
        x.smuggle(2);
        are("who is out has no place", Due.places(x, 3), NONE, 0, NONE, 1, 2);
        is("count(2)", x.count(2), 3);
        x.smuggle(1);
        x.smuggle(3);
        x.smuggle(4);
        is("nobody", x.count(2), 0);
        AsManyAsCame y = numbers(60);
        is("sixty", y.count(2), 60);
        is("the last", y.person(59, 3), 59);
    }

    private static void byList() {
        terms("WHO GOES: list: as they stand on it;");
        AsManyAsCame x = Due.of("town list 99 3 1;person born 9 0;person called 0 0;person pilgrim 5 0;");
        are("neither rank nor kind", Due.places(x, 4), 0, 1, 2);
        x.day(0, 0);
        x.call(0);
        are("not by numbers", Due.places(x, 4), 2, 0, 1);
        x.day(1, 0);
        is("nobody goes", x.count(2), 4);
        x.day(0, 0);
        is("the first on it goes", x.person(1, 5), 3);
    }

    private static void byRank() {
        terms("rank: by RANK, the greatest first, of like ones as they stand;");
        AsManyAsCame x = Due.of("town rank 99 3 1;person born 0 0;person born 9 0;person born 8 0;person born 9 0;"
                + "person born 0 0;");
        are("9, 9, 8, 0, 0", Due.places(x, 4), 3, 0, 2, 1, 4);
        x.day(0, 0);
        is("the greatest went", x.person(1, 5), 1);
        x.call(1);
        are("not by numbers: 3 stands ahead of 1", Due.places(x, 4), 3, 1, 2, 0, 4);
        x.smuggle(0);
        x.call(0);
        are("of rank 0, too", Due.places(x, 4), 4, 1, 2, 0, 3);
    }

    private static void byKind() {
        terms("kind: called ones, then pilgrims, hired ones, smuggled ones, born ones, of like ones as they stand.");
        String kinds = "person born 9 0;person smuggled 8 0;person hired 7 0;person pilgrim 6 0;person called 5 0;";
        AsManyAsCame x = Due.of("town kind 99 3 0;" + kinds + kinds);
        are("of each kind two", Due.places(x, 4), 8, 6, 4, 2, 0, 9, 7, 5, 3, 1);
        x.smuggle(4);
        x.call(4);
        is("called again: behind the other", x.person(4, 4), 1);
        is("the other is the first", x.person(9, 4), 0);
        x.smuggle(0);
        x.call(0);
        is("a born one that is called is a called one", x.person(0, 4), 2);
        is("the pilgrims are behind them", x.person(3, 4), 3);
    }

    private static void whoCome() {
        terms("A DAY, on which n come (0 to 20) and h of them are hired (0 to n):");
        int[][] fits = {{0, 0}, {1, 0}, {1, 1}, {20, 0}, {20, 20}, {20, 7}};
        for (int[] nh : fits) {
            AsManyAsCame x = Due.of("town list 0 0 0;");
            is("day", x.day(nh[0], nh[1]), 0);
            is("who came", x.count(1), nh[0]);
            for (int person = 0; person < nh[0]; person++) {
                is("kind of " + person, x.kind(person), person < nh[0] - nh[1] ? 1 : 2);
            }
        }
    }

    private static void whoGoOut() {
        terms("as many as CAME go out (the first by WHO GOES; fewer, if there are not so many);");
        int[] goOut = {0, 1, 4, 5, 5, 5};
        int[] came = {0, 1, 4, 5, 6, 20};
        for (int k = 0; k < came.length; k++) {
            AsManyAsCame x = five("kind", came[k]);
            is("CAME " + came[k], x.day(3, 0), goOut[k]);
            for (int person = 0; person < 5; person++) {
                is("out is " + person, x.person(person, 5), person >= 5 - goOut[k] ? 1 : NONE);
            }
            is("none of those who come", x.count(2), 5 - goOut[k] + 3);
        }
        is("of nobody none", Due.of("town list 0 0 20;").day(0, 0), 0);
        is("of nobody none, of CAME 0", Due.of("town list 0 0 0;").day(20, 0), 0);
    }

    private static void whoStandBehind() {
        terms("then all who come stand behind the last of THE LIST, first n less h pilgrims, then h hired ones, "
                + "of RANK 0, HASTE 0, numbered on");
        AsManyAsCame x = Due.of("town rank 99 0 1;person born 3 4;person born 5 6;");
        x.day(3, 2);
        are("numbers, places", Due.places(x, 3), 0, NONE, 1, 2, 3);
        are("kinds", Due.places(x, 0), 4, 4, 1, 2, 2);
        are("ranks", Due.places(x, 1), 3, 5, 0, 0, 0);
        are("hastes", Due.places(x, 2), 4, 6, 0, 0, 0);
        x.smuggle(4);
        x.day(1, 0);
        is("numbers of those who are out are not given again", x.person(5, 0), 1);
        is("his rank", x.person(5, 1), 0);
        is("his haste", x.person(5, 2), 0);
        AsManyAsCame y = Due.of("town list 99 0 0;person called 9 9;person born 9 9;");
        Due.read(y, "town list 99 0 0;");
        y.day(2, 1);
        are("ranks where others stood before", Due.places(y, 1), 0, 0);
        are("hastes where others stood before", Due.places(y, 2), 0, 0);
    }

    private static void moreThanSixty() {
        terms("(by more than 60 numbers: FULL, the DAY is not done);");
        is("to 60 by one", numbers(59).day(1, 0), 0);
        is("to 60 by twenty", numbers(40).day(20, 20), 0);
        is("60 and none", numbers(60).day(0, 0), 0);
        refused("to 61 by one", () -> numbers(60), x -> x.day(1, 0), FULL);
        refused("to 61 by two", () -> numbers(59), x -> x.day(2, 1), FULL);
        refused("to 61 by twenty", () -> numbers(41), x -> x.day(20, 20), FULL);
        AsManyAsCame x = numbers(59);
        x.day(1, 1);
        is("number 59", x.person(59, 0), 2);
        is("his place", x.person(59, 3), 59);
        AsManyAsCame out = Due.of("town list 99 0 20;" + Due.many(ONE, 20));
        out.day(20, 0);
        out.day(20, 0);
        out.day(0, 0);
        is("nobody is in", out.count(2), 0);
        is("those who are out have numbers, too", out.day(1, 0), FULL);
    }

    private static void pay() {
        terms("PAY for each hired one is SPENT more;");
        AsManyAsCame x = Due.of("town list 99 99 0;");
        x.day(20, 0);
        is("none is hired", x.count(5), 0);
        x.day(1, 1);
        is("one", x.count(5), 99);
        x.day(20, 20);
        is("twenty more", x.count(5), 99 + 1980);
        AsManyAsCame free = Due.of("town list 99 0 0;");
        free.day(20, 20);
        is("PAY 0", free.count(5), 0);
        AsManyAsCame full = numbers(60);
        full.day(1, 1);
        is("a DAY that is not done", full.count(5), 0);
    }

    private static void breadLeft(String text, int n, int bread, int hungry) {
        AsManyAsCame x = Due.of(text);
        x.day(n, 0);
        is("BREAD of " + text + " and " + n, x.count(4), bread);
        is("HUNGRY days of " + text + " and " + n, x.count(6), hungry);
    }

    private static void bread() {
        terms("then, if BREAD is no less than how many are on THE LIST, it is less by so many, else BREAD stays, "
                + "and it was a HUNGRY day.");
        breadLeft("town list 4 0 0;" + ONE + ONE, 1, 1, 0);
        breadLeft("town list 3 0 0;" + ONE + ONE, 1, 0, 0);
        breadLeft("town list 2 0 0;" + ONE + ONE, 1, 2, 1);
        breadLeft("town list 0 0 0;" + ONE, 0, 0, 1);
        breadLeft("town list 0 0 0;", 0, 0, 0);
        breadLeft("town list 0 0 1;" + ONE, 0, 0, 0);
        breadLeft("town list 1 0 1;" + ONE + ONE, 0, 0, 0);
        breadLeft("town list 999 0 0;", 20, 979, 0);
        AsManyAsCame x = Due.of("town list 3 0 2;" + FIVE);
        x.day(1, 0);
        is("four are too many", x.count(6), 1);
        x.day(0, 0);
        is("three are not", x.count(6), 1);
        x.day(0, 0);
        is("three again are", x.count(6), 2);
        are("counts", Due.counts(x), 0, 6, 3, 3, 0, 0, 2, 0, 0);
    }

    private static void cameIsN() {
        terms("CAME is n then.");
        AsManyAsCame x = numbers(24);
        int[] comes = {20, 0, 5, 1, 0};
        int cameBefore = 0;
        for (int n : comes) {
            is("as many go out as came", x.day(n, 0), cameBefore);
            is("count(7)", x.count(7), n);
            cameBefore = n;
        }
        is("hired ones came, too", x.day(2, 2), 0);
        is("two", x.day(0, 0), 2);
    }

    private static void bornBehindTheLast() {
        terms("BORN: one more, behind the last, HASTE 0, RANK 0, counts as none that came.");
        AsManyAsCame x = Due.of("town list 99 0 1;person pilgrim 7 8;person pilgrim 7 8;");
        x.smuggle(0);
        is("his number", x.born(), 2);
        are("places", Due.places(x, 3), NONE, 0, 1);
        is("RANK", x.person(2, 1), 0);
        is("HASTE", x.person(2, 2), 0);
        is("KIND", x.person(2, 0), 4);
        is("CAME", x.count(7), 1);
        x.day(0, 0);
        is("one went out", x.count(2), 1);
        x.day(0, 0);
        is("none went out for him", x.count(2), 1);
        AsManyAsCame empty = Due.of("town list 0 0 0;");
        is("in an empty town", empty.born(), 0);
        is("he is the first", empty.person(0, 3), 0);
    }

    private static void smuggledOut() {
        terms("SMUGGLED out: one who is in goes, beside all that (his KIND stays).");
        AsManyAsCame x = Due.of("town list 99 0 2;" + FIVE);
        for (int person = 0; person < 5; person++) {
            int kind = x.kind(person);
            is("smuggle", x.smuggle(person), 1);
            is("his KIND", x.kind(person), kind);
            is("one fewer", x.count(2), 4 - person);
            is("CAME", x.count(7), 2);
            is("days", x.count(3), 0);
            is("BREAD", x.count(4), 99);
        }
        AsManyAsCame y = Due.of("town list 99 0 2;" + FIVE);
        y.smuggle(0);
        is("two go out beside him", y.day(0, 0), 2);
        are("places", Due.places(y, 3), NONE, NONE, NONE, 0, 1);
        AsManyAsCame full = numbers(60);
        full.smuggle(59);
        full.smuggle(0);
        is("the first and the last of sixty", full.count(2), 58);
        is("the second is the first", full.person(1, 3), 0);
        is("the last but one is the last", full.person(58, 3), 57);
    }

    private static void calledBack() {
        terms("CALLED back: one who is out (SMUGGLED, too) stands behind the last again, his KIND is called, "
                + "counts as none that came.");
        AsManyAsCame x = Due.of("town list 99 0 1;person born 7 8;person hired 5 6;person pilgrim 3 4;");
        x.day(0, 0);
        x.smuggle(1);
        is("one who went out", x.call(0), 1);
        is("one who was SMUGGLED", x.call(1), 2);
        are("places", Due.places(x, 3), 1, 2, 0);
        are("KINDS", Due.places(x, 0), 3, 3, 1);
        are("RANKS stay", Due.places(x, 1), 7, 5, 3);
        are("HASTES stay", Due.places(x, 2), 8, 6, 4);
        is("no number more", x.count(1), 3);
        is("CAME", x.count(7), 0);
        is("nobody goes out for them", x.day(0, 0), 0);
        AsManyAsCame none = Due.of("town list 99 0 1;" + ONE);
        none.day(0, 0);
        is("into an empty town", none.call(0), 0);
    }

    private static void howManyWentOut() {
        promise(9, "A DAY: how many went out.");
        AsManyAsCame x = Due.of("town list 99 0 20;" + Due.many(ONE, 24));
        is("twenty", x.day(0, 0), 20);
        is("none", x.day(20, 3), 0);
        is("twenty", x.day(1, 0), 20);
        is("one", x.day(6, 0), 1);
        is("six", x.day(0, 0), 6);
        is("days gone", x.count(3), 5);
        is("fewer than CAME", Due.of("town list 99 0 20;" + ONE).day(0, 0), 1);
    }

    private static void numbersOfDay() {
        promise(9, "BAD: n, h;");
        is("n 0, h 0", whole().day(0, 0), 2);
        is("n 20, h 0", whole().day(20, 0), 2);
        is("n 20, h 20", whole().day(20, 20), 2);
        refusedOf("n", (x, n) -> x.day(n, 0), BAD, -1, 21, LEAST, MOST);
        refusedOf("h of 3", (x, h) -> x.day(3, h), BAD, -1, 4, LEAST, MOST);
        refused("h of none", x -> x.day(0, 1), BAD);
        refused("h 21 of 20", x -> x.day(20, 21), BAD);
        refused("h of n 21", x -> x.day(21, 21), BAD);
        refused("h of n -1", x -> x.day(-1, -1), BAD);
    }

    private static void dayWithoutTown() {
        promise(9, "STATE: no TOWN (ahead of BAD);");
        refused("a day", Edges::townless, x -> x.day(0, 0), STATE);
        refused("ahead of BAD: n", Edges::townless, x -> x.day(-1, 0), STATE);
        refused("ahead of BAD: h", Edges::townless, x -> x.day(1, 2), STATE);
        is("a town of nobody is one", Due.of("town list 0 0 0;").day(0, 0), 0);
    }

    private static void fullDay() {
        promise(9, "FULL.");
        is("60 numbers", numbers(59).day(1, 1), 0);
        refused("61 numbers", () -> numbers(59), x -> x.day(2, 2), FULL);
        refused("BAD is ahead of it: h", () -> numbers(59), x -> x.day(2, 3), BAD);
        refused("BAD is ahead of it: n", () -> numbers(59), x -> x.day(21, 0), BAD);
    }

    private static void hisNumber() {
        promise(10, "BORN: his number.");
        AsManyAsCame x = Due.of("town list 0 0 0;");
        for (int number = 0; number < 60; number++) {
            is("number", x.born(), number);
        }
        is("his place", x.person(59, 3), 59);
    }

    private static void bornWithoutTown() {
        promise(10, "STATE: no TOWN;");
        refused("born", Edges::townless, x -> x.born(), STATE);
        is("a town of nobody is one", Due.of("town list 0 0 0;").born(), 0);
    }

    private static void sixtyNumbers() {
        promise(10, "FULL: 60 numbers.");
        is("the last of 60", numbers(59).born(), 59);
        refused("one of 61", () -> numbers(60), x -> x.born(), FULL);
        AsManyAsCame x = numbers(60);
        x.smuggle(3);
        is("who is out has his number still", x.born(), FULL);
        is("he is called back all the same", x.call(3), 59);
    }

    private static void smuggled() {
        promise(11, "SMUGGLED out: 1.");
        is("the first", whole().smuggle(1), 1);
        is("the last", whole().smuggle(8), 1);
        AsManyAsCame x = Due.of("town list 0 0 0;" + ONE);
        is("the only one", x.smuggle(0), 1);
        is("nobody is in", x.count(2), 0);
    }

    private static void whomToSmuggle() {
        promise(11, "BAD;");
        refusedOf("person", (x, person) -> x.smuggle(person), BAD, -1, 9, 60, LEAST, MOST);
        refused("no TOWN", Edges::townless, x -> x.smuggle(0), BAD);
        is("nobody", Due.of("town list 0 0 0;").smuggle(0), BAD);
    }

    private static void outAlready() {
        promise(11, "STATE: he is out.");
        refused("one who went out", x -> x.smuggle(0), STATE);
        refused("one who was SMUGGLED", x -> x.smuggle(3), STATE);
        AsManyAsCame x = whole();
        x.call(3);
        is("called back he is in", x.smuggle(3), 1);
        is("once", x.smuggle(3), STATE);
    }

    private static void whereHeStands() {
        promise(12, "CALLED back: where he stands on THE LIST.");
        is("behind six", whole().call(0), 6);
        AsManyAsCame none = Due.of("town list 0 0 0;" + ONE);
        none.smuggle(0);
        is("behind nobody", none.call(0), 0);
        AsManyAsCame full = numbers(60);
        full.smuggle(0);
        is("behind 59", full.call(0), 59);
        is("person(0, 3)", full.person(0, 3), 59);
    }

    private static void whomToCall() {
        promise(12, "BAD;");
        refusedOf("person", (x, person) -> x.call(person), BAD, -1, 9, 60, LEAST, MOST);
        refused("no TOWN", Edges::townless, x -> x.call(0), BAD);
    }

    private static void inAlready() {
        promise(12, "STATE: he is in.");
        refused("the first", x -> x.call(1), STATE);
        refused("the last", x -> x.call(8), STATE);
        AsManyAsCame x = whole();
        x.call(0);
        is("one who was called back", x.call(0), STATE);
    }

    private static void ofOne() {
        promise(13, "Of one: 0 his KIND (1 to 5), 1 RANK, 2 HASTE");
        AsManyAsCame x = Due.of("town list 9 9 0;person pilgrim 0 0;person hired 9 99;person called 1 2;"
                + "person born 3 4;person smuggled 5 6;");
        are("KINDS", Due.places(x, 0), 1, 2, 3, 4, 5);
        are("RANKS", Due.places(x, 1), 0, 9, 1, 3, 5);
        are("HASTES", Due.places(x, 2), 0, 99, 2, 4, 6);
        tells("KIND of one who is out", y -> y.person(3, 0), 5, 3);
        tells("RANK of one who is out", y -> y.person(3, 1), 4, 3);
        tells("HASTE of one who is out", y -> y.person(3, 2), 40, 3);
    }

    private static void placesOfOne() {
        promise(13, "3 his place on THE LIST (NONE: out), 4 his place by WHO GOES (NONE)");
        AsManyAsCame x = whole();
        are("places", Due.places(x, 3), NONE, 0, 1, NONE, NONE, 2, 3, 4, 5);
        are("by WHO GOES", Due.places(x, 4), NONE, 2, 4, NONE, NONE, 0, 1, 3, 5);
        AsManyAsCame one = Due.of("town rank 9 9 1;" + ONE);
        is("the only one", one.person(0, 3), 0);
        is("by WHO GOES", one.person(0, 4), 0);
        one.day(0, 0);
        is("out", one.person(0, 3), NONE);
        is("out, by WHO GOES", one.person(0, 4), NONE);
    }

    private static void dayOfOne() {
        promise(13, "5 the day he went out (1 on; NONE: in, or smuggled).");
        AsManyAsCame x = Due.of("town list 99 9 1;" + ONE + ONE + ONE + ONE);
        is("in", x.person(0, 5), NONE);
        x.day(1, 0);
        is("on day 1", x.person(0, 5), 1);
        x.day(0, 0);
        x.day(0, 0);
        is("on day 2", x.person(1, 5), 2);
        x.smuggle(2);
        is("smuggled", x.person(2, 5), NONE);
        x.call(0);
        is("in again", x.person(0, 5), NONE);
        x.smuggle(0);
        is("smuggled, who once went out", x.person(0, 5), NONE);
        x.call(2);
        is("in, who was smuggled", x.person(2, 5), NONE);
        x.day(20, 0);
        x.day(0, 0);
        is("out, who was smuggled once", x.person(2, 5), 5);
        AsManyAsCame late = Due.of("town list 0 0 0;" + ONE);
        for (int day = 1; day < 200; day++) {
            late.day(0, 0);
        }
        late.day(1, 0);
        late.day(0, 0);
        is("on day 201", late.person(0, 5), 201);
    }

    private static void nobodyToTellOf() {
        promise(13, "BAD.");
        refusedOf("person", (x, person) -> x.person(person, 0), BAD, -1, 9, 60, LEAST, MOST);
        refusedOf("what", (x, what) -> x.person(1, what), BAD, -1, 6, LEAST, MOST);
        refusedOf("what, of one who is out", (x, what) -> x.person(0, what), BAD, -1, 6);
        refused("no TOWN", Edges::townless, x -> x.person(0, 0), BAD);
        is("the last one", whole().person(8, 5), NONE);
    }
}
