/** Edges of promises 24 to 29 and of the terms on KINDS and ASKS. */
final class AskedEdges extends Edges {
    /** Numbers 0 to 4, of the KINDS 1 to 5. */
    private static final String ALL = "town list 8 3 1;person pilgrim 2 30;person hired 3 40;"
            + "person called 4 50;person born 5 60;person smuggled 6 70;";

    static void all() {
        kinds();
        bodies();
        size();
        sizeOfPilgrims();
        sizeOfHired();
        sizeOfBorn();
        sizeOfSmuggled();
        mark();
        markOfPilgrims();
        markOfCalled();
        markOfBorn();
        whichBodyBegins();
        askedAnew();
        kindAsTold();
        kindOfNobody();
        takenAs();
        takenAsWhat();
        noSuchOne();
        asks();
        asksOfNobody();
        emptyAhead();
        numbersOfTheTrace();
        howMany();
        howManyOfWhat();
        latestCall();
        notBad();
        noFinding();
    }

    private static void kinds() {
        terms("KINDS of PEOPLE: 0 PERSON; 1 PILGRIM, a PERSON; 2 HIRED, a PILGRIM; 3 CALLED, a PILGRIM; "
                + "4 BORN, a PERSON; 5 SMUGGLED, a BORN one. By this it is asked.");
        int[][] is = {{0, 1}, {0, 1, 2}, {0, 1, 3}, {0, 4}, {0, 4, 5}};
        AsManyAsCame x = Due.of(ALL);
        for (int person = 0; person < 5; person++) {
            int at = 0;
            for (int kind = 0; kind <= 5; kind++) {
                boolean fits = at < is[person].length && is[person][at] == kind;
                at += fits ? 1 : 0;
                is(person + " as " + kind, x.as(person, kind), fits ? person : KIND);
            }
        }
    }

    private static void asked(AsManyAsCame x, int person, int what, int answer, int... trace) {
        is("ask(" + person + ", " + what + ")", x.ask(person, what), answer);
        are("THE TRACE of ask(" + person + ", " + what + ")", Due.trace(x), trace);
    }

    private static void bodies() {
        terms("ASKS of PEOPLE, by BODIES, each of which leaves its number in THE TRACE as it begins (the first 16):");
        AsManyAsCame x = Due.of(ALL);
        asked(x, 1, 0, -(40 + 301), 12, 11, 10, 21, 20);
        is("number 4", x.trace(4), 20);
        is("number 5", x.trace(5), NONE);
        is("number 15", x.trace(15), NONE);
        is("number 16", x.trace(16), NONE);
        for (int k = 0; k < 20; k++) {
            asked(x, 2, 0, 50 + 402 - 1000, 11, 10, 22, 21, 20);
        }
    }

    private static void size() {
        terms("0 SIZE: 10 lent to all PEOPLE: HASTE.");
        AsManyAsCame x = Due.of("town list 0 0 0;person born 0 0;person born 0 99;");
        asked(x, 0, 0, -100, 13, 10);
        asked(x, 1, 0, -1, 13, 10);
    }

    private static void sizeOfPilgrims() {
        terms("11 of PILGRIMS: what 10 gives, and MARK.");
        AsManyAsCame x = Due.of("town list 0 0 0;person pilgrim 0 0;person pilgrim 9 99;");
        asked(x, 0, 0, 0, 11, 10, 21, 20);
        asked(x, 1, 0, 99 + 901, 11, 10, 21, 20);
    }

    private static void sizeOfHired() {
        terms("12 of HIRED ones: 0 less what 11 gives.");
        AsManyAsCame x = Due.of("town list 0 0 0;person hired 0 0;person hired 9 99;");
        asked(x, 0, 0, 0, 12, 11, 10, 21, 20);
        asked(x, 1, 0, -1000, 12, 11, 10, 21, 20);
    }

    private static void sizeOfBorn() {
        terms("13 of BORN ones: what 10 gives, less 100.");
        AsManyAsCame x = Due.of("town list 0 0 0;person born 9 99;");
        is("born", x.born(), 1);
        asked(x, 0, 0, -1, 13, 10);
        asked(x, 1, 0, -100, 13, 10);
    }

    private static void sizeOfSmuggled() {
        terms("14 of SMUGGLED ones: twice what 13 gives (asked once).");
        AsManyAsCame x = Due.of("town list 0 0 0;person smuggled 0 0;person smuggled 9 99;");
        asked(x, 0, 0, -200, 14, 13, 10);
        asked(x, 1, 0, -2, 14, 13, 10);
    }

    private static void mark() {
        terms("1 MARK: 20 lent to all PEOPLE: his number.");
        AsManyAsCame x = numbers(24);
        x.day(20, 0);
        asked(x, 43, 1, 43, 21, 20);
        x.day(16, 0);
        asked(x, 59, 1, 59, 21, 20);
    }

    private static void markOfPilgrims() {
        terms("21 of PILGRIMS: what 20 gives, and 100 times RANK.");
        AsManyAsCame x = Due.of("town list 0 0 0;person pilgrim 0 5;person pilgrim 9 5;person hired 9 5;");
        asked(x, 0, 1, 0, 21, 20);
        asked(x, 1, 1, 901, 21, 20);
        asked(x, 2, 1, 902, 21, 20);
    }

    private static void markOfCalled() {
        terms("22 of CALLED ones: what 21 gives, less 1000.");
        AsManyAsCame x = Due.of("town list 0 0 0;person called 0 5;person called 9 5;");
        asked(x, 0, 1, -1000, 22, 21, 20);
        asked(x, 1, 1, -99, 22, 21, 20);
    }

    private static void markOfBorn() {
        terms("23 of BORN ones: what 20 gives, less SIZE.");
        AsManyAsCame x = Due.of("town list 0 0 0;person born 9 0;person born 9 99;");
        asked(x, 0, 1, 100, 23, 20, 13, 10);
        asked(x, 1, 1, 1 + 1, 23, 20, 13, 10);
    }

    private static void whichBodyBegins() {
        terms("(Of an ask the BODY told for the KIND begins, else that of the nearest KIND that it is, too, "
                + "else the one that is lent;");
        AsManyAsCame x = Due.of(ALL);
        int[] sizes = {11, 12, 11, 13, 14};
        int[] marks = {21, 21, 22, 23, 23};
        for (int person = 0; person < 5; person++) {
            x.ask(person, 0);
            is("SIZE of KIND " + (person + 1), x.trace(0), sizes[person]);
            x.ask(person, 1);
            is("MARK of KIND " + (person + 1), x.trace(0), marks[person]);
        }
        is("a lent one is last", x.trace(4), 10);
    }

    private static void askedAnew() {
        terms("SIZE, MARK within others are asked of the same PERSON anew.)");
        AsManyAsCame x = Due.of(ALL);
        asked(x, 1, 0, -(40 + 301), 12, 11, 10, 21, 20);
        asked(x, 2, 0, 50 + 402 - 1000, 11, 10, 22, 21, 20);
        asked(x, 4, 1, 4 + 60, 23, 20, 14, 13, 10);
        x.smuggle(4);
        x.call(4);
        asked(x, 4, 0, 70 + 604 - 1000, 11, 10, 22, 21, 20);
    }

    private static void kindAsTold() {
        promise(24, "The KIND of one, as told (1 to 5).");
        AsManyAsCame x = Due.of(ALL);
        for (int person = 0; person < 5; person++) {
            is("as told", x.kind(person), person + 1);
        }
        is("born", x.kind(x.born()), 4);
        x.day(2, 1);
        is("who came", x.kind(6), 1);
        is("who came hired", x.kind(7), 2);
        is("of one who is out", x.kind(0), 1);
        x.call(0);
        is("called", x.kind(0), 3);
        x.smuggle(4);
        is("smuggled out", x.kind(4), 5);
        x.smuggle(1);
        is("smuggled out, it stays", x.kind(1), 2);
    }

    private static void kindOfNobody() {
        promise(24, "BAD.");
        is("the first", whole().kind(0), 1);
        is("the last", whole().kind(8), 4);
        refusedOf("person", (x, person) -> x.kind(person), BAD, -1, 9, 60, LEAST, MOST);
        refused("no TOWN", Edges::townless, x -> x.kind(0), BAD);
    }

    private static void takenAs() {
        promise(25, "He is taken as one of a KIND (0 .. 5): his number.");
        tells("as a PERSON", x -> x.as(8, 0), 8, 0);
        tells("as a BORN one", x -> x.as(8, 4), 8, 0);
        tells("as a SMUGGLED one, who is out", x -> x.as(3, 5), 3, 0);
        tells("number 0, who is out", x -> x.as(0, 1), 0, 0);
        AsManyAsCame x = numbers(60);
        is("number 59", x.as(59, 4), 59);
    }

    private static void takenAsWhat() {
        promise(25, "BAD; KIND");
        refusedOf("person", (x, person) -> x.as(person, 0), BAD, -1, 9, 60, LEAST, MOST);
        refusedOf("kind", (x, kind) -> x.as(1, kind), BAD, -1, 6, LEAST, MOST);
        refused("no TOWN", Edges::townless, x -> x.as(0, 0), BAD);
    }

    private static void noSuchOne() {
        promise(25, ": he is no such one.");
        found("a HIRED one is not CALLED", x -> x.as(1, 3), KIND);
        found("nor BORN", x -> x.as(1, 4), KIND);
        found("nor SMUGGLED", x -> x.as(1, 5), KIND);
        found("a BORN one is not SMUGGLED", x -> x.as(2, 5), KIND);
        found("a SMUGGLED one is no PILGRIM", x -> x.as(3, 1), KIND);
        found("a PILGRIM is not HIRED", x -> x.as(5, 2), KIND);
        AsManyAsCame x = whole();
        is("before he is called back", x.as(0, 3), KIND);
        x.call(0);
        is("once he is", x.as(0, 3), 0);
    }

    private static void asks() {
        promise(26, "An ASK (0, 1) of one.");
        asked(whole(), 5, 0, 60 + 5, 11, 10, 21, 20);
        asked(whole(), 5, 1, 5, 21, 20);
        asked(whole(), 0, 1, 300, 21, 20);
        AsManyAsCame x = whole();
        x.ask(5, 0);
        is("status() stays", x.status(), 3);
    }

    private static void asksOfNobody() {
        promise(26, "BAD.");
        refusedOf("person", (x, person) -> x.ask(person, 0), BAD, -1, 9, 60, LEAST, MOST);
        refusedOf("what", (x, what) -> x.ask(1, what), BAD, -1, 2, LEAST, MOST);
        refused("no TOWN", Edges::townless, x -> x.ask(0, 0), BAD);
    }

    private static void emptyAhead() {
        promise(26, "THE TRACE is empty ahead of it (where that is refused it stays).");
        AsManyAsCame x = whole();
        x.ask(5, 1);
        are("nothing of the five before", Due.trace(x), 21, 20);
        x.ask(9, 0);
        x.ask(5, 2);
        are("it stays", Due.trace(x), 21, 20);
        x.kind(1);
        x.as(1, 1);
        x.day(1, 1);
        x.restore(0);
        are("nothing else empties it", Due.trace(x), 21, 20);
    }

    private static void numbersOfTheTrace() {
        promise(27, "Number i of THE TRACE; NONE.");
        int[] want = {12, 11, 10, 21, 20};
        for (int i = 0; i < want.length; i++) {
            int at = i;
            tells("number " + i, x -> x.trace(at), want[i], 3);
        }
        for (int i : new int[] {-1, 5, 15, 16, 17, LEAST, MOST}) {
            tells("number " + i, x -> x.trace(i), NONE, 3);
        }
        is("ahead of an ask", townless().trace(0), NONE);
    }

    private static void howMany() {
        promise(28, "How many: 0 ROWS, 1 numbers of PEOPLE so far, 2 on THE LIST, 3 days gone, 4 BREAD, 5 SPENT, "
                + "6 HUNGRY days, 7 CAME, 8 bytes on the tape.");
        are("of a new object", Due.counts(new AsManyAsCame()), 0, 0, 0, 0, 0, 0, 0, 0, 0);
        int[] want = {3, 9, 6, 1, 44, 7, 0, 2, 21};
        are("of all", Due.counts(whole()), want);
        for (int what = 0; what <= 8; what++) {
            int w = what;
            tells("count(" + what + ")", x -> x.count(w), want[what], 3);
        }
        AsManyAsCame x = whole(Due.many(" ", 500));
        for (int row = 0; row <= 7; row++) {
            x.row(row, 0, 0);
        }
        x.day(20, 20);
        x.day(0, 0);
        is("eight ROWS", x.count(0), 8);
        is("those who are out have numbers, too", x.count(1), 29);
        is("on THE LIST", x.count(2), 4);
        is("three days", x.count(3), 3);
        is("BREAD: 24 of 44, 4 of 20", x.count(4), 16);
        is("SPENT", x.count(5), 147);
        is("CAME", x.count(7), 0);
        is("500 bytes", x.count(8), 500);
    }

    private static void howManyOfWhat() {
        promise(28, "BAD.");
        refusedOf("what", (x, what) -> x.count(what), BAD, -1, 9, LEAST, MOST);
        refused("no TOWN", Edges::townless, x -> x.count(9), BAD);
    }

    private static void latestCall() {
        promise(29, "Of the latest call with a ROW, or as(), that was not BAD, STATE, FULL: "
                + "the number of its FINDING;");
        AsManyAsCame x = whole();
        x.drop(3);
        is("NULL", x.status(), 1);
        x.set(0, 5, 0);
        is("PLACE", x.status(), 2);
        x.as(1, 5);
        is("KIND", x.status(), 3);
        x.row(0, 0, -1);
        is("SIZE", x.status(), 4);
        x.copy(0, 0, 1, 0, 0);
        is("STORE", x.status(), 5);
        is("told again", x.status(), 5);
    }

    /** By whole(), whose latest FINDING was 3. */
    private static void notBad() {
        promise(29, "that was not BAD, STATE, FULL");
        AsManyAsCame x = whole();
        x.row(8, 0, 0);
        x.set(8, 0, 0);
        x.copy(0, 0, 8, 0, 0);
        x.drop(-1);
        x.as(9, 0);
        x.out(0, 0, 1);
        x.span(0, 0, 0, 1, 0);
        x.odds(0, 0, 0, 1, 0);
        x.hire(-1, 0, 1);
        x.lasts(0, 0);
        x.unseen(0, 0, 0);
        is("BAD", x.status(), 3);
        AsManyAsCame none = townless();
        none.hire(0, 0, 1);
        none.lasts(0, 1);
        none.unseen(0, 1, 0);
        is("STATE", none.status(), 1);
        x.feed(0, 8);
        x.town();
        x.fault();
        x.day(1, 1);
        x.born();
        x.smuggle(1);
        x.call(1);
        x.person(1, 1);
        x.swaps(1, 1);
        x.gates(1, 1, 1, 1);
        x.image(1);
        x.restore(1);
        x.kind(1);
        x.ask(1, 1);
        x.trace(1);
        x.count(1);
        is("no call with a ROW", x.status(), 3);
        AsManyAsCame full = numbers(60);
        full.as(0, 5);
        full.day(1, 0);
        full.born();
        is("FULL", full.status(), 3);
    }

    private static void noFinding() {
        promise(29, "0: it had none, or there was none.");
        is("there was none", new AsManyAsCame().status(), 0);
        AsManyAsCame refused = new AsManyAsCame();
        refused.row(8, 0, 0);
        is("a BAD one alone", refused.status(), 0);
        tells("row", x -> x.row(2, 2, 0), 0, 0);
        tells("set", x -> x.set(0, 0, 1), 1, 0);
        tells("copy", x -> x.copy(0, 0, 0, 0, 5), 5, 0);
        tells("copy of none", x -> x.copy(2, 0, 2, 0, 0), 0, 0);
        tells("out", x -> x.out(1, 0, 1), NONE, 0);
        tells("span", x -> x.span(1, 0, 0, 1, 0), NONE, 0);
        tells("odds", x -> x.odds(1, 0, 0, 1, 0), 0, 0);
        tells("hire", x -> x.hire(0, 0, 1), 0, 0);
        tells("lasts", x -> x.lasts(0, 1), NONE, 0);
        tells("unseen", x -> x.unseen(0, 1, 1), 5, 0);
        tells("as", x -> x.as(1, 0), 1, 0);
        AsManyAsCame x = whole();
        x.drop(0);
        is("drop", x.status(), 0);
    }
}
