/** Edges of promises 6 to 8 and of the terms on texts and their FAULTS. */
final class TextEdges extends Edges {
    private static final String HEAD = "town list 10 5 3;";
    private static final int BEHIND_HEAD = HEAD.length();

    static void all() {
        fullTape();
        lowestBytes();
        bytesOfFeed();
        noneComes();
        names();
        numbers();
        signs();
        blanks();
        asManyAsWanted();
        noneIsNeeded();
        head();
        law();
        bread();
        pay();
        came();
        person();
        kind();
        rank();
        haste();
        people();
        inPlaceOfTheOneBefore();
        dayNought();
        theList();
        imagesAndRows();
        theFirstToken();
        theLeast();
        cannotStandThere();
        isNone();
        theEnd();
        notAsTold();
        aPersonMore();
        isRead();
        placeOfAFault();
        allStays();
        latestFault();
        noFaultYet();
    }

    private static void fault(String text, int place, int number) {
        AsManyAsCame x = whole(text);
        String shown = text.length() > 60 ? text.length() + " bytes" : text;
        is("town() of '" + shown + "'", x.town(), -1000100 - place);
        is("fault() of '" + shown + "'", x.fault(), number);
    }

    private static void taken(String text, int people) {
        AsManyAsCame x = new AsManyAsCame();
        is("town() of '" + text.trim() + "'", Due.read(x, text), people);
        is("fault() of '" + text.trim() + "'", x.fault(), 0);
    }

    private static void fullTape() {
        terms("TEXTS: THE TAPE has at most 500 bytes");
        AsManyAsCame x = new AsManyAsCame();
        is("500 bytes", Due.feed(x, Due.many(" ", 484) + "town list 7 0 0;"), 500);
        is("byte 501", x.feed(' ', 1), FULL);
        is("count(8)", x.count(8), 500);
        is("all are read", x.town(), 0);
        is("the last of them, too", x.count(4), 7);
        is("it is empty", x.count(8), 0);
        is("500 bytes anew", Due.feed(x, Due.many(";", 500)), 500);
    }

    /** Ahead of the n bytes there are others, which do not come. */
    private static void lowestBytes() {
        promise(6, "The lowest n bytes of w (1 to 8), the highest of them first, come behind the tape: "
                + "how many it has.");
        String text = "town kind 999 99 20;person called 9 99;";
        for (int n = 1; n <= 8; n++) {
            AsManyAsCame x = new AsManyAsCame();
            for (int i = 0; i < text.length(); i += n) {
                int m = Math.min(n, text.length() - i);
                long w = -1;
                for (int k = 0; k < m; k++) {
                    w = w << 8 | text.charAt(i + k);
                }
                is("feed of " + m, x.feed(w, m), i + m);
            }
            is("town() of bytes by " + n, x.town(), 1);
            is("bread", x.count(4), 999);
        }
        AsManyAsCame x = new AsManyAsCame();
        is("bytes of 255", x.feed(-1L, 8), 8);
        is("the first of them", x.town(), -1000100);
        is("the highest is the first", x.feed(0x80_20_20_20_20_20_20_20L, 8), 8);
        is("it is none", x.town(), -1000100);
        is("the lowest is the last", x.feed(0x20_20_20_20_20_20_20_80L, 8), 8);
        is("it is none", x.town(), -1000107);
        is("the highest does not come", x.feed(0x80_20_20_20_20_20_20_3bL, 7), 7);
        is("six blanks and a sign", x.town(), -1000106);
    }

    private static void bytesOfFeed() {
        promise(6, "BAD: n");
        is("n 1", whole().feed(0x20, 1), 22);
        is("n 8", whole().feed(0x20, 8), 29);
        refusedOf("n", (x, n) -> x.feed(0x20, n), BAD, 0, 9, -1, LEAST, MOST);
        refused("ahead of FULL", () -> whole(Due.many(" ", 500)), x -> x.feed(0x20, 9), BAD);
        refused("n 0 of a full tape", () -> whole(Due.many(" ", 500)), x -> x.feed(0x20, 0), BAD);
    }

    private static void noneComes() {
        promise(6, "FULL: none comes.");
        for (int n = 1; n <= 8; n++) {
            int bytes = n;
            is(n + " more up to 500", whole(Due.many(" ", 500 - n)).feed(0x3b3b3b3b3b3b3b3bL, n), 500);
            String tape = Due.many(" ", 501 - n);
            refused(n + " more up to 501", () -> whole(tape), x -> x.feed(0x3b3b3b3b3b3b3b3bL, bytes), FULL);
        }
    }

    private static void names() {
        terms("TOKENS: NAMES (letters a to z)");
        fault("towna list 1 1 1;", 0, 1);
        fault("townz list 1 1 1;", 0, 1);
        fault("town` list 1 1 1;", 4, 1);
        fault("town{ list 1 1 1;", 4, 1);
        fault("townA list 1 1 1;", 4, 1);
        fault("townZ list 1 1 1;", 4, 1);
        fault("Town list 1 1 1;", 0, 1);
        taken("town list 1 1 1;person smuggled 1 1;", 1);
    }

    private static void numbers() {
        terms("NUMBERS (figures, 3 at most)");
        taken("town list 0 0 0;", 0);
        taken("town list 000 000 000;", 0);
        taken("town list 999 099 009;", 0);
        fault("town list 1/ 1 1;", 11, 1);
        fault("town list 1: 1 1;", 11, 1);
        fault("town list /1 1 1;", 10, 1);
        fault("town list 0000 1 1;", 10, 1);
        fault("town list 1000 1 1;", 10, 1);
        fault("town list 9999999999 1 1;", 10, 1);
        fault("town list -1 1 1;", 10, 1);
    }

    private static void signs() {
        terms("SIGNS ;");
        taken("town list 1 1 1;", 0);
        fault("town list 1 1 1:", 15, 1);
        fault("town list 1 1 1<", 15, 1);
        fault("town list 1 1 1,", 15, 1);
        fault("town list, 1 1 1;", 9, 1);
    }

    private static void blanks() {
        terms("bytes 32 and 10 ahead of, between, behind these");
        taken(" town list 1 1 1;", 0);
        taken("\ntown\nlist\n1\n1\n1\n;\nperson\nborn\n1\n1\n;\n", 1);
        taken(" town list 1 1 1 ; person born 1 1 ; ", 1);
        for (int b : new int[] {0, 9, 11, 13, 31, 33, 127, 128, 160, 255}) {
            fault((char) b + "town list 1 1 1;", 0, 1);
            fault("town" + (char) b + "list 1 1 1;", 4, 1);
            fault("town list 1 1 1;" + (char) b, 16, 1);
        }
    }

    private static void asManyAsWanted() {
        terms(", as many as wanted");
        String many = Due.many(" \n", 80);
        taken(Due.many("\n", 484) + "town list 1 1 1;", 0);
        taken("town list 1 1 1;" + Due.many(" ", 484), 0);
        taken("town" + many + "list" + many + "1 1 1" + many + ";", 0);
    }

    private static void noneIsNeeded() {
        terms("(none is needed where one ends without).");
        taken("town list1 2 3;person pilgrim4 5;person born6 7;", 2);
        taken("town list 1 2 3;person born 4 5;", 1);
        fault("townlist 1 2 3;", 0, 1);
        fault("town list 12 3;", 14, 1);
        fault("town list 1 2 3;personborn 4 5;", 16, 1);
        fault("town list 1 2 3;person born 45;", 28, 2);
        fault("town list 1x2 3;", 11, 1);
    }

    private static void head() {
        terms("town: 'town' LAW BREAD PAY CAME ';' { person }");
        taken(HEAD, 0);
        taken(HEAD + ONE, 1);
        taken(HEAD + ONE + ONE, 2);
        fault("list 10 5 3;", 0, 1);
        fault("town 10 5 3;", 5, 1);
        fault("town list 5 3;", 13, 1);
        fault("town list 10 5 3", 16, 1);
        fault("town list 10 5 3 person born 1 1;", 17, 1);
        fault("town list ;10 5 3;", 10, 1);
        fault("town list 10 5 3;;", 17, 1);
        fault("town list 10 5 3 3;", 17, 1);
        fault(HEAD + HEAD, BEHIND_HEAD, 1);
        fault("towm list 10 5 3;", 0, 1);
        fault("down list 10 5 3;", 0, 1);
        fault("tow list 10 5 3;", 0, 1);
    }

    private static void law() {
        terms("(LAW: 'list' | 'rank' | 'kind'");
        String people = "person born 1 1;person pilgrim 2 1;person called 0 1;";
        are("list", Due.places(Due.of("town list 1 1 1;" + people), 4), 0, 1, 2);
        are("rank", Due.places(Due.of("town rank 1 1 1;" + people), 4), 1, 0, 2);
        are("kind", Due.places(Due.of("town kind 1 1 1;" + people), 4), 2, 1, 0);
        for (String other : new String[] {"lis", "lists", "lisu", "mist", "ran", "ranks", "ranj", "bank", "kin",
            "kinds", "kine", "find", "born", "town", "person", "law", "a", "1", ";"}) {
            fault("town " + other + " 1 1 1;", 5, 1);
        }
    }

    private static void bread() {
        terms("0 to 999;");
        is("0", Due.of("town list 0 0 0;").count(4), 0);
        is("999", Due.of("town list 999 0 0;").count(4), 999);
        fault("town list 1000 0 0;", 10, 1);
    }

    /** What 20 hired ones are paid. */
    private static int spent(String text) {
        AsManyAsCame x = Due.of(text);
        x.day(20, 20);
        return x.count(5);
    }

    private static void pay() {
        terms("0 to 99; 0 to 20");
        is("0", spent("town list 0 0 0;"), 0);
        is("1", spent("town list 0 1 0;"), 20);
        is("99", spent("town list 0 99 0;"), 1980);
        fault("town list 0 100 0;", 12, 2);
        fault("town list 0 999 0;", 12, 2);
        fault("town list 0 1000 0;", 12, 1);
    }

    private static void came() {
        terms("0 to 20: how many came in the day before)");
        String people = Due.many(ONE, 24);
        is("0", Due.of("town list 0 0 0;" + people).day(0, 0), 0);
        is("1", Due.of("town list 0 0 1;" + people).day(0, 0), 1);
        is("20", Due.of("town list 0 0 20;" + people).day(0, 0), 20);
        is("count(7)", Due.of("town list 0 0 20;").count(7), 20);
        is("020", Due.of("town list 0 0 020;").count(7), 20);
        fault("town list 0 0 21;", 14, 2);
        fault("town list 0 0 021;", 14, 2);
        fault("town list 0 0 1000;", 14, 1);
    }

    private static void person() {
        terms("person: 'person' KIND RANK HASTE ';'");
        taken(HEAD + "person born 1 1;", 1);
        fault(HEAD + "born 1 1;", BEHIND_HEAD, 1);
        fault(HEAD + "person 1 1;", BEHIND_HEAD + 7, 1);
        fault(HEAD + "person born 1;", BEHIND_HEAD + 13, 1);
        fault(HEAD + "person born 1 1", BEHIND_HEAD + 15, 1);
        fault(HEAD + "person born 1 1 person born 1 1;", BEHIND_HEAD + 16, 1);
        fault(HEAD + "person born 1 1 1;", BEHIND_HEAD + 16, 1);
        fault(HEAD + "people born 1 1;", BEHIND_HEAD, 1);
        fault(HEAD + "persons born 1 1;", BEHIND_HEAD, 1);
        fault(HEAD + "qerson born 1 1;", BEHIND_HEAD, 1);
        fault(HEAD + "person" + HEAD, BEHIND_HEAD, 1);
        fault(HEAD + "person " + HEAD, BEHIND_HEAD + 7, 1);
    }

    private static void kind() {
        terms("(KIND: 'pilgrim' | 'hired' | 'born' | 'smuggled' | 'called'");
        AsManyAsCame x = Due.of(HEAD + "person pilgrim 0 0;person hired 0 0;person born 0 0;person smuggled 0 0;"
                + "person called 0 0;");
        are("all five", Due.places(x, 0), 1, 2, 4, 5, 3);
        are("all are in", Due.places(x, 3), 0, 1, 2, 3, 4);
        for (String other : new String[] {"pilgri", "pilgrims", "qilgrim", "hire", "hiree", "fired", "bor", "borne",
            "bora", "torn", "smuggle", "smugglec", "tmuggled", "call", "callee", "balled", "person", "list", "1", ";",
            "1000"}) {
            fault(HEAD + "person " + other + " 0 0;", BEHIND_HEAD + 7, 1);
        }
    }

    private static void rank() {
        terms("0 to 9;");
        AsManyAsCame x = Due.of(HEAD + "person born 0 1;person born 9 1;person born 009 1;");
        are("0, 9, 009", Due.places(x, 1), 0, 9, 9);
        fault(HEAD + "person born 10 1;", BEHIND_HEAD + 12, 2);
        fault(HEAD + "person born 010 1;", BEHIND_HEAD + 12, 2);
        fault(HEAD + "person born 999 1;", BEHIND_HEAD + 12, 2);
        fault(HEAD + "person born 1000 1;", BEHIND_HEAD + 12, 1);
    }

    private static void haste() {
        terms("0 to 99; PEOPLE");
        AsManyAsCame x = Due.of(HEAD + "person born 1 0;person born 1 99;person born 1 099;");
        are("0, 99, 099", Due.places(x, 2), 0, 99, 99);
        fault(HEAD + "person born 1 100;", BEHIND_HEAD + 14, 2);
        fault(HEAD + "person born 1 999;", BEHIND_HEAD + 14, 2);
        fault(HEAD + "person born 1 1000;", BEHIND_HEAD + 14, 1);
    }

    private static void people() {
        terms("PEOPLE 0 .. 23, 24 at most).");
        AsManyAsCame x = new AsManyAsCame();
        is("24", Due.read(x, HEAD + Due.many(ONE, 23) + "person hired 7 8;"), 24);
        is("number 23", x.person(23, 2), 8);
        is("number 24", x.person(24, 2), BAD);
        is("number 0", x.person(0, 2), 1);
        is("number -1", x.person(-1, 2), BAD);
        fault(HEAD + Due.many(ONE, 25), BEHIND_HEAD + 24 * 16, 3);
    }

    private static void inPlaceOfTheOneBefore() {
        terms("A TOWN that is read stands in place of the one before (none at first)");
        is("none at first", new AsManyAsCame().image(0), STATE);
        AsManyAsCame x = whole("town rank 9 8 1;person hired 4 5;");
        is("town", x.town(), 1);
        AsManyAsCame y = Due.of("town rank 9 8 1;person hired 4 5;");
        for (int what = 1; what <= 8; what++) {
            is("count(" + what + ")", x.count(what), y.count(what));
        }
        for (int what = 0; what <= 5; what++) {
            is("person(0, " + what + ")", x.person(0, what), y.person(0, what));
        }
        is("nobody else", x.kind(1), BAD);
        is("law and pay", x.day(1, 1), 1);
        is("spent", x.count(5), 8);
        is("an empty one", Due.read(x, "town list 0 0 0;"), 0);
        is("nobody is there", x.kind(0), BAD);
    }

    private static void dayNought() {
        terms(": day 0;");
        AsManyAsCame x = Due.of("town list 0 8 0;" + ONE);
        x.day(2, 2);
        x.day(0, 0);
        are("counts ahead of it", Due.counts(x), 0, 3, 1, 2, 0, 16, 2, 0, 0);
        Due.read(x, "town list 0 8 1;" + ONE);
        are("counts: no days, none SPENT, none HUNGRY", Due.counts(x), 0, 1, 1, 0, 0, 0, 0, 1, 0);
        x.day(0, 0);
        is("he went out on day 1", x.person(0, 5), 1);
    }

    private static void theList() {
        terms("THE LIST: all PEOPLE, by numbers;");
        AsManyAsCame x = whole("town rank 8 8 8;person born 1 9;person called 9 1;person smuggled 5 5;");
        x.town();
        are("places", Due.places(x, 3), 0, 1, 2);
        is("count(2)", x.count(2), 3);
        are("no day on which one went out", Due.places(x, 5), NONE, NONE, NONE);
    }

    private static void imagesAndRows() {
        terms("IMAGES and ROWS stay.");
        AsManyAsCame x = whole("town rank 8 8 8;person born 1 9;");
        x.town();
        is("rows", x.count(0), 3);
        are("THE TRACE", Due.trace(x), 12, 11, 10, 21, 20);
        is("status", x.status(), 3);
        is("IMAGE 1 was not kept", x.restore(1), STATE);
        is("IMAGE 0", x.restore(0), 1);
        is("its people", x.count(2), 6);
        Due.read(x, "town list 0 0 0;");
        are("row 0", items(x, 0), 1, 2, 0, 3, 20);
        are("row 1", items(x, 1), 2, 4, 5);
        is("row 2", x.drop(2), 0);
    }

    private static void theFirstToken() {
        terms("FAULTS, the first TOKEN that has one (its first byte)");
        fault("town list 1 100 99 x", 12, 2);
        fault("town list 1000 100 99 x", 10, 1);
        fault("town  listing 1 100 99", 6, 1);
        fault("town list 1 1 \n 21?", 16, 2);
        fault("? town list 1 1 1;", 0, 1);
        fault(HEAD + Due.many(ONE, 23) + "person born 1 100;" + ONE, BEHIND_HEAD + 23 * 16 + 14, 2);
        fault(HEAD + Due.many(ONE, 24) + "person born 1 100;", BEHIND_HEAD + 24 * 16, 3);
    }

    private static void theLeast() {
        terms(", of one TOKEN the least:");
        fault("town list 1 9999 1;", 12, 1);
        fault("town 100 1 1 1;", 5, 1);
        fault(HEAD + "person 100 1 1;", BEHIND_HEAD + 7, 1);
        fault(HEAD + Due.many(ONE, 24) + "100", BEHIND_HEAD + 24 * 16, 1);
        fault(HEAD + Due.many(ONE, 24) + "persons", BEHIND_HEAD + 24 * 16, 1);
        fault(HEAD + Due.many(ONE, 24) + "people", BEHIND_HEAD + 24 * 16, 1);
        fault(HEAD + Due.many(ONE, 24) + "?", BEHIND_HEAD + 24 * 16, 1);
    }

    private static void cannotStandThere() {
        terms("1 it cannot stand there");
        String[] fits = {"town", "list", "1", "2", "3", ";", "person", "born", "4", "5", ";"};
        String[] others = {"town", "list", "999", ";", "person", "born", "x"};
        StringBuilder ahead = new StringBuilder();
        for (int i = 0; i < fits.length; i++) {
            for (String other : others) {
                boolean likes = other.equals(fits[i]) || other.equals("999") && fits[i].matches("\\d");
                if (!likes) {
                    fault(ahead + other + " 1 1;", ahead.length(), 1);
                }
            }
            ahead.append(fits[i]).append(' ');
        }
    }

    private static void isNone() {
        terms("or is none (a run of four figures or more, at its first");
        fault("town list 999 1 1 ?", 18, 1);
        fault("town list 0999 1 1;", 10, 1);
        fault("town list 12345 1 1;", 10, 1);
        fault("town list 1 1 0001;", 14, 1);
        fault("1234", 0, 1);
        fault(HEAD + "1234", BEHIND_HEAD, 1);
        fault(HEAD + "person born 0009 1;", BEHIND_HEAD + 12, 1);
        fault(HEAD + "person born 1 0099;", BEHIND_HEAD + 14, 1);
        fault("$", 0, 1);
        fault("town list 1 1 1 $;", 16, 1);
    }

    private static void theEnd() {
        terms("; the end: how many bytes there are);");
        fault("", 0, 1);
        fault(" ", 1, 1);
        fault("town", 4, 1);
        fault("town \n", 6, 1);
        fault("town list 1 1 1", 15, 1);
        fault("town list 1 1 1 ", 16, 1);
        fault("town list 1 1 100", 14, 2);
        fault(HEAD + "person", BEHIND_HEAD + 6, 1);
        fault(HEAD + "person born 1 1", BEHIND_HEAD + 15, 1);
        fault(Due.many(" ", 500), 500, 1);
        fault(Due.many("\n", 496) + "town", 500, 1);
    }

    private static void notAsTold() {
        terms("2 a NUMBER that is not as told;");
        fault("town list 1 100 1;", 12, 2);
        fault("town list 1 99 21;", 15, 2);
        fault(HEAD + "person born 10 1;", BEHIND_HEAD + 12, 2);
        fault(HEAD + "person born 9 100;", BEHIND_HEAD + 14, 2);
        taken("town list 999 99 20;person born 9 99;", 1);
    }

    private static void aPersonMore() {
        terms("3 a person more than there is room for (its word).");
        String full = HEAD + Due.many(ONE, 24);
        taken(full, 24);
        taken(full + " \n", 24);
        fault(full + ONE, full.length(), 3);
        fault(full + "person", full.length(), 3);
        fault(full + " person ?", full.length() + 1, 3);
        fault(full + "\n\nperson born 99 1000;", full.length() + 2, 3);
        fault(full + "person;", full.length(), 3);
        fault(full + "person1", full.length(), 3);
    }

    private static void isRead() {
        promise(7, "The tape, empty then, is read: how many PEOPLE there are.");
        is("none", whole(HEAD).town(), 0);
        is("one", whole(HEAD + ONE).town(), 1);
        AsManyAsCame x = whole(HEAD + Due.many(ONE, 24));
        is("24", x.town(), 24);
        is("the tape is empty", x.count(8), 0);
        is("it is empty behind a fault, too", Due.read(x, "x"), -1000100);
        is("count(8)", x.count(8), 0);
        is("an empty tape is read", x.town(), -1000100);
        is("nothing of the former is left on it", Due.read(x, "own list 1 1 1;"), -1000100);
        is("what comes stands from its beginning on", x.feed(';', 1), 1);
    }

    private static void placeOfAFault() {
        promise(7, "-1000100 less the place of a FAULT");
        is("0", whole("?").town(), -1000100);
        is("1", whole(" ?").town(), -1000101);
        is("499", whole(Due.many(" ", 499) + "?").town(), -1000599);
        is("500", whole(Due.many(" ", 500)).town(), -1000600);
    }

    private static void allStays() {
        promise(7, ": all but the tape, and what fault() tells, stays.");
        String[] faulty = {"", "?", "town kind 1 1 1", "town kind 1 1 1;person called 9 9;?", "town rank 1 100 1;",
            HEAD + Due.many(ONE, 25)};
        for (String text : faulty) {
            AsManyAsCame x = whole(text);
            is("a fault", x.town() <= -1000100 ? 1 : 0, 1);
            is("status() stays", x.status(), 3);
            sameFromNowOn("behind a fault of " + text.length() + " bytes", x, whole(""));
        }
        AsManyAsCame x = new AsManyAsCame();
        x.town();
        is("no TOWN stays no TOWN", x.born(), STATE);
    }

    private static void latestFault() {
        promise(8, "The number of the latest FAULT");
        AsManyAsCame x = new AsManyAsCame();
        Due.read(x, "town list 1 100 1;");
        is("2", x.fault(), 2);
        Due.read(x, "?");
        is("1", x.fault(), 1);
        Due.read(x, HEAD + Due.many(ONE, 25));
        is("3", x.fault(), 3);
        Due.read(x, HEAD);
        is("3 behind a text without one", x.fault(), 3);
        x.image(0);
        x.restore(0);
        is("3 behind an IMAGE", x.fault(), 3);
    }

    private static void noFaultYet() {
        promise(8, "; 0 before one.");
        AsManyAsCame x = new AsManyAsCame();
        is("0", x.fault(), 0);
        x.feed('?', 1);
        is("0 while it is not read", x.fault(), 0);
        x.town();
        is("1", x.fault(), 1);
        is("0 behind a town", Due.of(HEAD).fault(), 0);
    }
}
