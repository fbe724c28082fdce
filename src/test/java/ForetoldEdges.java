/** Edges of promises 14 to 17 and of the terms on OUT, SPAN, ODDS and HIRE. */
final class ForetoldEdges extends Edges {
    static void all() {
        nothingChanges();
        daysAndItems();
        fromItsBeginning();
        outDays();
        numbersAboveSixty();
        firstDay();
        lastDay();
        odds();
        alikeLikely();
        whoGoesAhead();
        toldComings();
        toldPeople();
        fewestHired();
        cannotBe();
        outOrNone();
        personOfOut();
        rowOfOut();
        daysOfOut();
        missingToOut();
        placesToOut();
        itemsOfOut();
        whatOfSpan();
        numbersOfSpan();
        rowsOfSpan();
        itemsOfSpan();
        mostBelowFewest();
        daysOfOdds();
        aboveAndBelow();
        refusedAsSpan();
        nineAbove();
        daysOfHire();
        peopleOfHire();
        rowAndDayOfHire();
        hireWithoutTown();
        rowsToHire();
        itemsOfHire();
    }

    private static void nothingChanges() {
        terms("FORETOLD (nothing changes), by told comings of the days to come, a row:");
        tells("out", x -> x.out(5, 0, 5), 1, 0);
        tells("out, NONE", x -> x.out(1, 0, 5), NONE, 0);
        tells("span", x -> x.span(5, 0, 0, 5, 0), 1, 0);
        tells("span, NONE", x -> x.span(8, 0, 0, 5, 1), NONE, 0);
        tells("odds", x -> x.odds(1, 0, 0, 5, 1), 1, 0);
        tells("hire", x -> x.hire(2, 0, 3), 1, 0);
        tells("hire, NONE", x -> x.hire(4, 0, 5), NONE, 0);
        tells("swaps", x -> x.swaps(1, 0), 3, 3);
        tells("swaps, where one stands", x -> x.swaps(1, 2), 2, 3);
        tells("lasts", x -> x.lasts(0, 5), 5, 0);
        tells("lasts, NONE", x -> x.lasts(0, 4), NONE, 0);
        tells("unseen", x -> x.unseen(0, 1, 1), 5, 0);
        tells("gates", x -> x.gates(1, 2, 3, 4), 0, 3);
    }

    private static void daysAndItems() {
        terms("m days (1 to 20), ITEMS 0 to 20 of a ROW");
        AsManyAsCame x = five("list", 0);
        Due.fill(x, 0, 2, Due.repeated(21, 0));
        x.set(0, 18, 20);
        is("out, m 1", x.out(4, 0, 1), NONE);
        is("out, m 20", x.out(4, 0, 20), 20);
        is("out, m 0", x.out(4, 0, 0), BAD);
        is("out, m 21", x.out(4, 0, 21), BAD);
        is("span, m 1", x.span(4, 0, 0, 1, 0), NONE);
        is("span, m 20", x.span(4, 0, 0, 20, 0), 20);
        is("span, m 0", x.span(4, 0, 0, 0, 0), BAD);
        is("span, m 21", x.span(4, 0, 0, 21, 0), BAD);
        is("lasts, m 1", x.lasts(0, 1), 1);
        is("lasts, m 20", x.lasts(0, 20), 1);
        is("lasts, m 0", x.lasts(0, 0), BAD);
        is("lasts, m 21", x.lasts(0, 21), BAD);
        for (int item : new int[] {-1, 21, LEAST, MOST, 256, 65536}) {
            x.set(0, 0, item);
            is("out of item " + item, x.out(0, 0, 1), BAD);
            is("span of item " + item, x.span(0, 0, 0, 1, 0), BAD);
            is("odds of item " + item, x.odds(0, 0, 0, 1, 0), BAD);
            is("hire of item " + item, x.hire(0, 0, 1), BAD);
            is("lasts of item " + item, x.lasts(0, 1), BAD);
        }
        for (int item : new int[] {0, 20}) {
            x.set(0, 0, item);
            is("out of item " + item, x.out(0, 0, 1), NONE);
            is("span of item " + item, x.span(0, 0, 0, 1, 0), NONE);
            is("odds of item " + item, x.odds(0, 0, 0, 1, 0), 0);
            is("hire of item " + item, x.hire(0, 0, 1), 0);
            is("lasts of item " + item, x.lasts(0, 1), 1);
        }
    }

    private static void fromItsBeginning() {
        terms("of a ROW from its beginning on.");
        AsManyAsCame x = five("list", 0);
        Due.fill(x, 0, 2, 1, 0, 0, 21);
        is("the first item is of day 1", x.out(0, 0, 2), 2);
        is("those behind m are not looked at", x.out(0, 0, 3), 2);
        is("those within are", x.out(0, 0, 4), BAD);
        is("span, behind m", x.span(0, 0, 0, 3, 0), 2);
        is("odds, behind d", x.odds(0, 0, 0, 3, 0), 1);
        is("hire, behind d", x.hire(1, 0, 3), 0);
        is("lasts, behind m", x.lasts(0, 3), 1);
    }

    private static void outDays() {
        terms("OUT: on which of these days (1 on) one goes out, nobody hired, born, smuggled, called");
        AsManyAsCame x = five("list", 1);
        Due.fill(x, 0, 0, 0, 2, 0, 1, 20);
        int[] days = {1, 3, 3, 5, NONE};
        for (int person = 0; person < 5; person++) {
            is("of " + person, x.out(person, 0, 5), days[person]);
        }
        is("who comes on the last day lets nobody out", x.out(1, 0, 2), NONE);
        is("nor does he that day", x.out(1, 0, 3), 3);
        AsManyAsCame all = five("list", 20);
        Due.fill(all, 0, 0, 0);
        is("the last, on day 1", all.out(4, 0, 1), 1);
        AsManyAsCame just = five("list", 4);
        Due.fill(just, 0, 0, 0);
        is("the fourth of CAME 4", just.out(3, 0, 1), 1);
        is("the fifth of CAME 4", just.out(4, 0, 1), NONE);
        AsManyAsCame rank = Due.of("town rank 0 0 1;person born 0 0;person born 1 0;person born 0 0;");
        Due.fill(rank, 0, 0, 1, 1, 1);
        is("the greatest rank", rank.out(1, 0, 3), 1);
        is("rank 0, ahead of those who come", rank.out(0, 0, 3), 2);
        is("the last of rank 0, too", rank.out(2, 0, 3), 3);
    }

    private static void numbersAboveSixty() {
        terms("(numbers above 60 do not matter); NONE: not in these.");
        AsManyAsCame x = numbers(60);
        Due.fill(x, 0, 0, Due.repeated(20, 20));
        is("a day is FULL", x.day(1, 0), FULL);
        is("the first", x.out(0, 0, 20), 2);
        is("the 20th", x.out(19, 0, 20), 2);
        is("the 21st", x.out(20, 0, 20), 3);
        is("the last", x.out(59, 0, 20), 4);
        is("the last, by four days", x.out(59, 0, 4), 4);
        is("not in three", x.out(59, 0, 3), NONE);
        is("span", x.span(59, 0, 0, 20, 1), 4);
        is("odds", x.odds(59, 0, 0, 8, 0), 1);
        is("lasts: 80 on day 1, 80 on day 2", x.lasts(0, 20), 2);
    }

    private static AsManyAsCame spans(String law, int came) {
        AsManyAsCame x = five(law, came);
        Due.fill(x, 0, 0, 0, 1, 0, 1);
        Due.fill(x, 1, 1, 2, 1, 0, 20);
        return x;
    }

    private static void firstDay() {
        terms("SPAN: by two rows, the fewest and the most who may come on each of the days: the first day on which "
                + "he may go out (NONE: he cannot within them)");
        AsManyAsCame x = spans("list", 1);
        int[] first = {1, 2, 2, 3, NONE};
        for (int person = 0; person < 5; person++) {
            is("of " + person, x.span(person, 0, 1, 4, 0), first[person]);
        }
        is("not within two days", x.span(3, 0, 1, 2, 0), NONE);
        is("within three", x.span(3, 0, 1, 3, 0), 3);
        is("not within one", x.span(1, 0, 1, 1, 0), NONE);
        x.row(1, 1, 5);
        x.set(1, 1, 1);
        x.set(1, 3, 20);
        x.row(0, 0, 5);
        is("most of whom come on the day before the last", x.span(4, 0, 1, 5, 0), 5);
    }

    private static void lastDay() {
        terms(", the last one (NONE: he may still be in behind them).");
        AsManyAsCame x = spans("list", 1);
        int[] last = {1, 3, NONE, NONE, NONE};
        for (int person = 0; person < 5; person++) {
            is("of " + person, x.span(person, 0, 1, 4, 1), last[person]);
        }
        is("he may be in behind two days", x.span(1, 0, 1, 2, 1), NONE);
        is("not behind three", x.span(1, 0, 1, 3, 1), 3);
        is("within one row first and last are one", x.span(2, 1, 1, 4, 1), 2);
        AsManyAsCame kind = spans("kind", 2);
        is("who is passed goes on day 1", kind.span(3, 0, 1, 4, 1), 1);
        is("or never", kind.span(2, 0, 1, 4, 0), NONE);
        is("nor as the last day", kind.span(2, 0, 1, 4, 1), NONE);
    }

    private static void fraction(AsManyAsCame x, String what, int person, int d, int above, int below) {
        is(what + ", above", x.odds(person, 0, 1, d, 0), above);
        is(what + ", below", x.odds(person, 0, 1, d, 1), below);
    }

    private static void odds() {
        terms("ODDS: by the same rows");
        AsManyAsCame x = five("list", 1);
        Due.fill(x, 0, 0, Due.repeated(8, 0));
        Due.fill(x, 1, 0, Due.repeated(8, 1));
        fraction(x, "the first by day 1", 0, 1, 1, 1);
        fraction(x, "the second by day 1", 1, 1, 0, 1);
        fraction(x, "the second by day 2", 1, 2, 1, 2);
        fraction(x, "the second by day 3", 1, 3, 3, 4);
        fraction(x, "the third by day 3", 2, 3, 1, 4);
        fraction(x, "the second by day 8", 1, 8, 127, 128);
        fraction(x, "the fifth by day 8: 35, 21, 7, 1 ways for 4 to 7", 4, 8, 64 / 64, 128 / 64);
        fraction(x, "the fifth by day 4", 4, 4, 0, 1);
        Due.fill(x, 1, 0, Due.repeated(8, 9));
        fraction(x, "the second by day 8 of ten each", 1, 8, 9999999, 10000000);
        fraction(x, "the fifth by day 8 of ten each: 1, 7, 28, 84 ways for 0 to 3", 4, 8,
                (10000000 - 120) / 40, 10000000 / 40);
        AsManyAsCame many = Due.of("town list 0 0 0;" + Due.many(ONE, 24));
        Due.fill(many, 0, 0, Due.repeated(8, 11));
        Due.fill(many, 1, 0, Due.repeated(8, 20));
        fraction(many, "the last of 24 by day 2", 23, 2, 0, 1);
        fraction(many, "the last of 24 by day 3: 24 or more of 22 to 40", 23, 3, 97, 100);
        fraction(many, "the last of 24 by day 4", 23, 4, 1, 1);
        fraction(many, "the 20th by day 2: twenty of 11 to 20", 19, 2, 1, 10);
        AsManyAsCame all = numbers(60);
        Due.fill(all, 0, 0, Due.repeated(8, 0));
        Due.fill(all, 1, 0, Due.repeated(8, 9));
        fraction(all, "the last of 60 by day 8: 60 of at most 63: 1, 7, 28, 84 ways", 59, 8, 3, 250000);
        fraction(all, "the last of 60 by day 7: of at most 54", 59, 7, 0, 1);
    }

    private static void alikeLikely() {
        terms(", all numbers from the fewest to the most alike likely, by itself each day: that he is out by day d "
                + "(1 to 8): a fraction.");
        AsManyAsCame x = five("list", 1);
        Due.fill(x, 0, 0, 2, 20, 0, 0, 0, 0, 0, 0, 0);
        Due.fill(x, 1, 0, 4, 20, 0, 0, 0, 0, 0, 0, 0);
        fraction(x, "2, 3, 4 of which all do", 2, 2, 1, 1);
        fraction(x, "2, 3, 4 of which two do", 3, 2, 2, 3);
        fraction(x, "2, 3, 4 of which one does", 4, 2, 1, 3);
        fraction(x, "by day 8", 4, 8, 1, 1);
        is("by day 9", x.odds(4, 0, 1, 9, 0), BAD);
        is("by day 0", x.odds(4, 0, 1, 0, 0), BAD);
        Due.fill(x, 0, 0, 0, 1);
        Due.fill(x, 1, 0, 1, 3);
        fraction(x, "4 of 0 to 1", 4, 2, 0, 1);
        Due.fill(x, 0, 0, 0, 1, 0);
        Due.fill(x, 1, 0, 1, 3, 9);
        fraction(x, "4 of 1 to 4", 4, 3, 1, 6);
        fraction(x, "3 or 4 of 1 to 4", 3, 3, 1, 2);
        fraction(x, "2 to 4 of 1 to 4", 2, 3, 5, 6);
    }

    private static void whoGoesAhead() {
        terms("(Who comes goes ahead of one who is there by law kind alone: pilgrims ahead of hired, smuggled, "
                + "born ones; hired ones ahead of smuggled, born ones.)");
        int[] hiredFor = {NONE, NONE, 2, 1, 0};
        int[] outOn = {NONE, NONE, NONE, 2, 1};
        AsManyAsCame kind = five("kind", 1);
        Due.fill(kind, 0, 0, 20, 20, 20);
        Due.fill(kind, 1, 0, 0, 0, 0);
        for (int person = 0; person < 5; person++) {
            is("by law kind: out", kind.out(person, 0, 3), outOn[person]);
            is("by law kind: odds", kind.odds(person, 0, 0, 3, 0), outOn[person] == NONE ? 0 : 1);
            is("by law kind: hire", kind.hire(1 << person, 1, 3), hiredFor[person]);
        }
        for (String law : new String[] {"list", "rank"}) {
            AsManyAsCame x = five(law, 1);
            Due.fill(x, 0, 0, 20, 20, 20);
            Due.fill(x, 1, 0, 0, 0, 0);
            for (int person = 0; person < 5; person++) {
                is("by law " + law + ": out", x.out(person, 0, 3), person == 0 ? 1 : 2);
                is("by law " + law + ": hire", x.hire(1 << person, 1, 3), person);
            }
        }
    }

    private static void toldComings() {
        terms("HIRE: by told comings (of pilgrims),");
        AsManyAsCame x = five("list", 1);
        Due.fill(x, 0, 0, 1, 1, 20);
        is("by day 2 one helps", x.hire(16, 0, 2), 3);
        is("by day 3 two help", x.hire(16, 0, 3), 2);
        Due.fill(x, 0, 0, 4, 0, 0);
        is("four are enough", x.hire(16, 0, 2), 0);
        AsManyAsCame kind = five("kind", 1);
        Due.fill(kind, 0, 0, 20, 20, 20);
        is("they help pilgrims", kind.hire(8, 0, 3), 0);
        is("they do not help hired ones", kind.hire(4, 0, 3), 2);
    }

    private static void toldPeople() {
        terms("people told as bits of PEOPLE 0 .. 23 (who are in; others do not count) are all to be out by day d:");
        AsManyAsCame x = Due.of("town list 0 0 1;" + Due.many(ONE, 24));
        Due.fill(x, 0, 0, 0, 0);
        is("nobody", x.hire(0, 0, 1), 0);
        is("bit 0", x.hire(1, 0, 1), 0);
        is("bit 1", x.hire(2, 0, 1), NONE);
        is("bit 23", x.hire(1 << 23, 0, 2), 23);
        is("bits 0 and 23", x.hire(1 << 23 | 1, 0, 2), 23);
        is("all bits", x.hire((1 << 24) - 1, 0, 2), 23);
        is("bits 1 and 22", x.hire(1 << 22 | 2, 0, 2), 22);
        x.smuggle(22);
        is("one who is out does not count", x.hire(1 << 22, 0, 1), 0);
        is("he stands in nobody's way", x.hire(1 << 23, 0, 2), 22);
        is("born, number 24", x.born(), 24);
        is("number 24 does not count", x.hire(1 << 24, 0, 1), 0);
        AsManyAsCame none = Due.of("town list 0 0 0;");
        none.row(0, 0, 1);
        is("nobody is there", none.hire((1 << 24) - 1, 0, 1), 0);
        none.born();
        is("one who was born", none.hire(1, 0, 1), NONE);
    }

    private static void fewestHired() {
        terms("the fewest in all who are to be hired on the days 1 to d less 1, beside those who come (any number);");
        AsManyAsCame x = five("list", 1);
        Due.fill(x, 0, 0, Due.repeated(20, 0));
        for (int person = 0; person < 5; person++) {
            is("by day 2", x.hire(1 << person, 0, 2), person);
            is("by day 20", x.hire(1 << person, 0, 20), person);
        }
        x.set(0, 18, 3);
        is("who come on day 19 help by day 20", x.hire(16, 0, 20), 1);
        x.set(0, 18, 0);
        x.set(0, 19, 20);
        is("who come on day 20 do not", x.hire(16, 0, 20), 4);
        AsManyAsCame many = Due.of("town list 0 0 0;" + Due.many(ONE, 24));
        Due.fill(many, 0, 0, 0, 0);
        is("more than 20 on one day", many.hire(1 << 23, 0, 2), 24);
        many.set(0, 0, 20);
        is("beside 20 who come", many.hire(1 << 23, 0, 2), 4);
        AsManyAsCame numbers = numbers(60);
        Due.fill(numbers, 0, 0, 0, 0);
        is("numbers above 60 do not matter", numbers.hire(1 << 23, 0, 2), 24);
    }

    private static void cannotBe() {
        terms("NONE: it cannot be.");
        AsManyAsCame x = five("list", 1);
        Due.fill(x, 0, 0, 20, 20);
        is("nobody is hired ahead of day 1", x.hire(2, 0, 1), NONE);
        is("nor for two of whom one goes that day", x.hire(3, 0, 1), NONE);
        is("ahead of day 2 they are", x.hire(2, 0, 2), 0);
        AsManyAsCame kind = five("kind", 3);
        Due.fill(kind, 0, 0, 0, 0);
        is("hired ones pass a smuggled one", kind.hire(2, 0, 2), NONE);
        is("and a born one", kind.hire(1, 0, 2), NONE);
        is("those who go on day 1 can", kind.hire(28, 0, 2), 0);
        is("one of them cannot", kind.hire(29, 0, 2), NONE);
        AsManyAsCame early = five("kind", 4);
        Due.fill(early, 0, 0, 0, 0);
        is("a smuggled one on day 1", early.hire(2, 0, 2), 0);
        AsManyAsCame all = five("kind", 5);
        Due.fill(all, 0, 0, 0, 0);
        is("all on day 1", all.hire(31, 0, 1), 0);
    }

    private static void outOrNone() {
        promise(14, "OUT; NONE.");
        AsManyAsCame x = five("list", 1);
        Due.fill(x, 0, 2, 1, 0);
        is("day 1", x.out(0, 0, 2), 1);
        is("day 2", x.out(1, 0, 2), 2);
        is("NONE", x.out(2, 0, 2), NONE);
        is("a NONE is no FINDING", x.status(), 0);
    }

    private static void personOfOut() {
        promise(14, "BAD: one who is out, too");
        is("the last number", whole().out(8, 0, 1), NONE);
        refusedOf("person", (x, person) -> x.out(person, 0, 1), BAD, -1, 9, 60, LEAST, MOST);
        refusedOf("one who went out, was SMUGGLED", (x, person) -> x.out(person, 0, 1), BAD, 0, 3, 4);
        refused("ahead of NULL", x -> x.out(0, 3, 1), BAD);
        refused("no TOWN", Edges::townless, x -> x.out(0, 0, 1), BAD);
        AsManyAsCame x = whole();
        x.call(0);
        is("one who was called back", x.out(0, 0, 1), 1);
    }

    private static void rowOfOut() {
        promise(14, ", ROW,");
        AsManyAsCame x = whole();
        x.row(7, 0, 1);
        is("row 0", x.out(1, 0, 1), NONE);
        is("row 7", x.out(1, 7, 1), NONE);
        refusedOf("row", (y, row) -> y.out(1, row, 1), BAD, -1, 8, LEAST, MOST);
    }

    private static void daysOfOut() {
        promise(14, " m;");
        AsManyAsCame x = whole();
        x.row(7, 0, 20);
        is("m 1", x.out(1, 7, 1), NONE);
        is("m 20", x.out(1, 7, 20), NONE);
        refusedOf("m", (y, m) -> y.out(1, 0, m), BAD, 0, 21, -1, LEAST, MOST);
        refused("ahead of NULL", y -> y.out(1, 3, 21), BAD);
    }

    private static void missingToOut() {
        promise(14, "NULL;");
        found("a row that is missing", x -> x.out(1, 3, 1), NULL);
        found("m 20 of it", x -> x.out(1, 7, 20), NULL);
    }

    private static void placesToOut() {
        promise(14, "PLACE;");
        is("five items", whole().out(1, 0, 5), NONE);
        found("six of five", x -> x.out(1, 0, 6), PLACE);
        found("twenty of five", x -> x.out(1, 0, 20), PLACE);
        found("one of none", x -> x.out(1, 2, 1), PLACE);
    }

    private static AsManyAsCame item(int i, int item) {
        AsManyAsCame x = whole();
        Due.fill(x, 3, 2, 0, 1, 2);
        x.set(3, i, item);
        x.as(1, 4);
        return x;
    }

    private static void itemsOfOut() {
        promise(14, "then BAD: an ITEM.");
        for (int i = 0; i <= 2; i++) {
            int at = i;
            is("0", item(i, 0).out(5, 3, 3), 1);
            is("20", item(i, 20).out(5, 3, 3), 1);
            for (int item : new int[] {-1, 21}) {
                refused("item " + i + " is " + item, () -> item(at, item), x -> x.out(5, 3, 3), BAD);
            }
            found("PLACE is ahead of it", () -> item(at, 21), x -> x.out(5, 3, 4), PLACE);
        }
        is("one behind m", item(2, 21).out(5, 3, 2), 1);
    }

    private static void whatOfSpan() {
        promise(15, "SPAN: the first day (what = 0), the last one (1); NONE.");
        AsManyAsCame x = spans("list", 1);
        is("the first day", x.span(1, 0, 1, 4, 0), 2);
        is("the last one", x.span(1, 0, 1, 4, 1), 3);
        is("NONE as the first", x.span(4, 0, 1, 4, 0), NONE);
        is("a NONE is no FINDING", x.status(), 0);
        is("NONE as the last", x.span(2, 0, 1, 4, 1), NONE);
    }

    private static void numbersOfSpan() {
        promise(15, "BAD: likewise, what;");
        AsManyAsCame x = whole();
        x.row(7, 2, 20);
        is("rows 0 and 7, m 1", x.span(8, 7, 0, 1, 0), NONE);
        is("row 7, m 20, what 1", x.span(8, 7, 7, 20, 1), NONE);
        refusedOf("person", (y, person) -> y.span(person, 0, 0, 1, 0), BAD, -1, 9, LEAST, MOST);
        refusedOf("one who is out", (y, person) -> y.span(person, 0, 0, 1, 0), BAD, 0, 3, 4);
        refusedOf("the first row", (y, row) -> y.span(1, row, 0, 1, 0), BAD, -1, 8, LEAST, MOST);
        refusedOf("the second row", (y, row) -> y.span(1, 0, row, 1, 0), BAD, -1, 8, LEAST, MOST);
        refusedOf("m", (y, m) -> y.span(1, 0, 0, m, 0), BAD, 0, 21, -1, LEAST, MOST);
        refusedOf("what", (y, what) -> y.span(1, 0, 0, 1, what), BAD, -1, 2, LEAST, MOST);
        refused("what, ahead of NULL", y -> y.span(1, 3, 3, 1, 2), BAD);
        refused("m, ahead of NULL", y -> y.span(1, 3, 3, 21, 0), BAD);
        refused("the second row, ahead of NULL", y -> y.span(1, 3, 8, 1, 0), BAD);
        refused("no TOWN", Edges::townless, y -> y.span(0, 0, 0, 1, 0), BAD);
    }

    /** By whole(): row 0 has five items, 1 three, 2 none, 3 is missing. */
    private static void rowsOfSpan() {
        promise(15, "NULL, PLACE (of the first ROW, then of the second);");
        for (int what = 0; what <= 1; what++) {
            int w = what;
            is("three of both", whole().span(8, 0, 1, 3, w), NONE);
            found("the first is missing", x -> x.span(1, 3, 0, 1, w), NULL);
            found("the second is missing", x -> x.span(1, 0, 3, 1, w), NULL);
            found("both are missing", x -> x.span(1, 3, 4, 1, w), NULL);
            found("four of three: the first", x -> x.span(1, 1, 0, 4, w), PLACE);
            found("four of three: the second", x -> x.span(1, 0, 1, 4, w), PLACE);
            found("one of none: the second", x -> x.span(1, 0, 2, 1, w), PLACE);
            found("the first's PLACE, then the second's NULL", x -> x.span(1, 0, 3, 6, w), PLACE);
            found("the first's NULL, then the second's PLACE", x -> x.span(1, 3, 0, 6, w), NULL);
        }
    }

    private static void itemsOfSpan() {
        promise(15, "then BAD: an ITEM");
        is("20", item(2, 20).span(5, 3, 3, 3, 0), 1);
        is("0", item(2, 0).span(5, 3, 3, 3, 0), 1);
        for (int i = 0; i <= 2; i++) {
            int at = i;
            refused("a fewest of -1", () -> spanItem(at, -1, 0), x -> x.span(5, 3, 4, 3, 0), BAD);
            refused("a most of 21", () -> spanItem(at, 20, 21), x -> x.span(5, 3, 4, 3, 0), BAD);
            refused("a most of 21, above its fewest by 21", () -> spanItem(at, 0, 21), x -> x.span(5, 3, 4, 3, 0), BAD);
            refused("both of 21", () -> spanItem(at, 21, 21), x -> x.span(5, 3, 4, 3, 1), BAD);
            refused("both of -1", () -> spanItem(at, -1, -1), x -> x.span(5, 3, 4, 3, 1), BAD);
            is("0 to 20", spanItem(at, 0, 20).span(5, 3, 4, 3, 0), 1);
            found("PLACE is ahead of it", () -> spanItem(at, -1, 21), x -> x.span(5, 3, 4, 4, 0), PLACE);
        }
        is("behind m", spanItem(2, -1, 21).span(5, 3, 4, 2, 0), 1);
    }

    private static AsManyAsCame spanItem(int i, int fewest, int most) {
        AsManyAsCame x = item(i, fewest);
        Due.fill(x, 4, 1, 0, 1, 2);
        x.set(4, i, most);
        x.as(1, 4);
        return x;
    }

    private static void mostBelowFewest() {
        promise(15, ", a most below its fewest.");
        for (int i = 0; i <= 2; i++) {
            int at = i;
            is("alike", spanItem(at, 9, 9).span(5, 3, 4, 3, 0), 1);
            is("one above", spanItem(at, 9, 10).span(5, 3, 4, 3, 0), 1);
            refused("one below", () -> spanItem(at, 9, 8), x -> x.span(5, 3, 4, 3, 0), BAD);
            refused("twenty below", () -> spanItem(at, 20, 0), x -> x.span(5, 3, 4, 3, 1), BAD);
        }
        is("behind m", spanItem(2, 9, 8).span(5, 3, 4, 2, 0), 1);
    }

    private static void daysOfOdds() {
        promise(16, "ODDS by day d (1 to 8; both ROWS are of d days):");
        AsManyAsCame x = whole();
        x.row(7, 0, 8);
        is("d 1", x.odds(5, 7, 7, 1, 0), 1);
        is("d 8", x.odds(5, 7, 7, 8, 0), 1);
        refusedOf("d", (y, d) -> y.odds(5, 0, 0, d, 0), BAD, 0, 9, -1, LEAST, MOST);
        is("five items", x.odds(5, 0, 0, 5, 0), 1);
        found("six of five", y -> y.odds(5, 0, 0, 6, 0), PLACE);
        AsManyAsCame five = five("list", 1);
        Due.fill(five, 0, 0, 0, 5);
        Due.fill(five, 1, 0, 1, 4);
        is("the row's day d is looked at, too", five.odds(1, 0, 1, 2, 0), BAD);
    }

    private static void aboveAndBelow() {
        promise(16, "above (what = 0), below (1).");
        AsManyAsCame x = five("list", 1);
        Due.fill(x, 0, 0, 0, 0);
        Due.fill(x, 1, 0, 2, 0);
        fraction(x, "two thirds", 1, 2, 2, 3);
        fraction(x, "none", 3, 2, 0, 1);
        fraction(x, "all", 0, 2, 1, 1);
        is("an answer has no FINDING", x.status(), 0);
    }

    private static void refusedAsSpan() {
        promise(16, "BAD, NULL, PLACE as span();");
        refusedOf("person", (x, person) -> x.odds(person, 0, 0, 1, 0), BAD, -1, 9, LEAST, MOST);
        refusedOf("one who is out", (x, person) -> x.odds(person, 0, 0, 1, 0), BAD, 0, 3, 4);
        refusedOf("the first row", (x, row) -> x.odds(1, row, 0, 1, 0), BAD, -1, 8, LEAST, MOST);
        refusedOf("the second row", (x, row) -> x.odds(1, 0, row, 1, 0), BAD, -1, 8, LEAST, MOST);
        refusedOf("what", (x, what) -> x.odds(1, 0, 0, 1, what), BAD, -1, 2, LEAST, MOST);
        refused("d, ahead of NULL", x -> x.odds(1, 3, 3, 9, 0), BAD);
        refused("what, ahead of NULL", x -> x.odds(1, 3, 3, 1, 2), BAD);
        refused("no TOWN", Edges::townless, x -> x.odds(0, 0, 0, 1, 0), BAD);
        found("the first is missing", x -> x.odds(1, 3, 0, 1, 0), NULL);
        found("the second is missing", x -> x.odds(1, 0, 3, 1, 1), NULL);
        found("four of three: the first", x -> x.odds(1, 1, 0, 4, 0), PLACE);
        found("four of three: the second", x -> x.odds(1, 0, 1, 4, 0), PLACE);
        found("the first's PLACE, then the second's NULL", x -> x.odds(1, 0, 3, 6, 0), PLACE);
        found("the first's NULL, then the second's PLACE", x -> x.odds(1, 3, 0, 6, 0), NULL);
        for (int i = 0; i <= 2; i++) {
            int at = i;
            refused("a fewest of -1", () -> spanItem(at, -1, 0), x -> x.odds(5, 3, 4, 3, 0), BAD);
            refused("a most of 21", () -> spanItem(at, 20, 21), x -> x.odds(5, 3, 4, 3, 0), BAD);
            refused("a most below its fewest", () -> spanItem(at, 9, 8), x -> x.odds(5, 3, 4, 3, 0), BAD);
            is("20 and 20", spanItem(at, 20, 20).odds(5, 3, 4, 3, 0), 1);
            is("0 and 0", spanItem(at, 0, 0).odds(5, 3, 4, 3, 0), 1);
        }
    }

    private static void nineAbove() {
        promise(16, "a most 9 above its fewest at most.");
        for (int i = 0; i <= 2; i++) {
            int at = i;
            is("0 and 9", spanItem(at, 0, 9).odds(5, 3, 4, 3, 0), 1);
            is("11 and 20", spanItem(at, 11, 20).odds(5, 3, 4, 3, 0), 1);
            refused("0 and 10", () -> spanItem(at, 0, 10), x -> x.odds(5, 3, 4, 3, 0), BAD);
            refused("10 and 20", () -> spanItem(at, 10, 20), x -> x.odds(5, 3, 4, 3, 1), BAD);
            is("0 and 10 are a span", spanItem(at, 0, 10).span(5, 3, 4, 3, 0), 1);
        }
        is("behind d", spanItem(2, 0, 10).odds(5, 3, 4, 2, 0), 1);
    }

    private static void daysOfHire() {
        promise(17, "HIRE by day d (1 to 20; the ROW is of d days); NONE.");
        AsManyAsCame x = five("list", 1);
        Due.fill(x, 0, 0, Due.repeated(20, 0));
        is("d 1", x.hire(1, 0, 1), 0);
        is("d 1, NONE", x.hire(2, 0, 1), NONE);
        is("a NONE is no FINDING", x.status(), 0);
        is("d 20", x.hire(2, 0, 20), 1);
        is("d 0", x.hire(2, 0, 0), BAD);
        is("d 21", x.hire(2, 0, 21), BAD);
        found("a ROW of five by day 6", y -> y.hire(0, 0, 6), PLACE);
        is("a ROW of five by day 5", whole().hire(2, 0, 5), 1);
    }

    private static void peopleOfHire() {
        promise(17, "BAD: people (below 0; bits from 24 on do not count)");
        AsManyAsCame x = Due.of("town list 0 0 1;" + Due.many(ONE, 24));
        for (int k = 0; k < 7; k++) {
            x.born();
        }
        Due.fill(x, 0, 0, 0, 0);
        is("people 0", x.hire(0, 0, 2), 0);
        for (int bit = 24; bit <= 30; bit++) {
            is("bit " + bit + " alone", x.hire(1 << bit, 0, 2), 0);
            is("bits 3 and " + bit, x.hire(1 << bit | 8, 0, 2), 3);
        }
        is("the most", x.hire(MOST, 0, 2), 23);
        refusedOf("people", (y, people) -> y.hire(people, 0, 1), BAD, -1, LEAST, LEAST + 1, -2);
        refused("ahead of NULL", y -> y.hire(-1, 3, 1), BAD);
    }

    private static void rowAndDayOfHire() {
        promise(17, ", ROW, d;");
        AsManyAsCame x = whole();
        x.row(7, 0, 20);
        is("row 7, d 20", x.hire(0, 7, 20), 0);
        is("row 0, d 1", x.hire(0, 0, 1), 0);
        refusedOf("row", (y, row) -> y.hire(0, row, 1), BAD, -1, 8, LEAST, MOST);
        refusedOf("d", (y, d) -> y.hire(0, 0, d), BAD, 0, 21, -1, LEAST, MOST);
        refused("d, ahead of NULL", y -> y.hire(0, 3, 21), BAD);
    }

    private static void hireWithoutTown() {
        promise(17, "STATE: no TOWN (ahead of BAD);");
        refused("hire", Edges::townless, x -> x.hire(0, 0, 1), STATE);
        refused("ahead of BAD: people", Edges::townless, x -> x.hire(-1, 0, 1), STATE);
        refused("ahead of BAD: row", Edges::townless, x -> x.hire(0, 8, 1), STATE);
        refused("ahead of BAD: d", Edges::townless, x -> x.hire(0, 0, 0), STATE);
        refused("ahead of NULL", Edges::townless, x -> x.hire(0, 3, 1), STATE);
        AsManyAsCame x = Due.of("town list 0 0 0;");
        x.row(0, 0, 1);
        is("a town of nobody is one", x.hire(1, 0, 1), 0);
    }

    private static void rowsToHire() {
        promise(17, "NULL; PLACE;");
        found("a row that is missing", x -> x.hire(0, 3, 1), NULL);
        found("by day 20", x -> x.hire(0, 7, 20), NULL);
        found("six of five", x -> x.hire(0, 0, 6), PLACE);
        found("one of none", x -> x.hire(0, 2, 1), PLACE);
        is("five of five", whole().hire(0, 0, 5), 0);
    }

    private static void itemsOfHire() {
        promise(17, "then BAD: an ITEM.");
        for (int i = 0; i <= 2; i++) {
            int at = i;
            is("0", item(i, 0).hire(0, 3, 3), 0);
            is("20", item(i, 20).hire(0, 3, 3), 0);
            for (int item : new int[] {-1, 21}) {
                refused("item " + i + " is " + item, () -> item(at, item), x -> x.hire(0, 3, 3), BAD);
            }
            found("PLACE is ahead of it", () -> item(at, 21), x -> x.hire(0, 3, 4), PLACE);
        }
        is("one behind d", item(2, 21).hire(0, 3, 2), 0);
    }
}
