/** Edges of promises 18 to 23 and of the terms on SWAPS, LASTS, UNSEEN, GATE TO GATE; IMAGES. */
final class CountedEdges extends Edges {
    static void all() {
        moreHaste();
        howManyChanges();
        whereOneStands();
        price();
        hungryDay();
        leftUnseen();
        daysAsBits();
        lessThanItMustBe();
        gateToGate();
        inTheMarsh();
        intoTheFirst();
        whatOfSwaps();
        personOfSwaps();
        lastsOrNone();
        rowAndDaysOfLasts();
        lastsWithoutTown();
        rowsToLasts();
        itemsOfLasts();
        daysOfUnseen();
        whatOfUnseen();
        numbersOfUnseen();
        unseenWithoutTown();
        rowsToUnseen();
        itemsOfUnseen();
        numbersOfGates();
        beyondGates();
        kept();
        imagesThereAre();
        imageWithoutTown();
        asKept();
        imagesToRestore();
        noneWasKept();
    }

    /** People with such a HASTE each, as they stand. */
    private static AsManyAsCame hastes(int... hastes) {
        StringBuilder text = new StringBuilder("town list 0 0 0;");
        for (int haste : hastes) {
            text.append("person born 1 ").append(haste).append(';');
        }
        return Due.of(text.toString());
    }

    private static void moreHaste() {
        terms("SWAPS: two who stand beside one another on THE LIST change places, "
                + "if who stands behind has more HASTE:");
        is("more by one", hastes(4, 5).swaps(0, 0), 1);
        is("as much", hastes(5, 5).swaps(0, 0), 0);
        is("less by one", hastes(5, 4).swaps(0, 0), 0);
        is("0 and 99", hastes(0, 99).swaps(0, 0), 1);
        is("99 and 0", hastes(99, 0).swaps(0, 0), 0);
        AsManyAsCame x = hastes(5, 4, 3);
        x.smuggle(0);
        x.call(0);
        is("by THE LIST, not by numbers", x.swaps(0, 0), 2);
        AsManyAsCame kind = Due.of("town kind 0 0 0;person born 0 5;person called 0 4;");
        is("not by WHO GOES", kind.swaps(0, 0), 0);
    }

    private static void howManyChanges() {
        terms("so long as there are such, the first such two on THE LIST: how many changes;");
        is("of one", hastes(7).swaps(0, 0), 0);
        is("of three, the wrong way round", hastes(1, 2, 3).swaps(0, 0), 3);
        is("of three, the right way round", hastes(3, 2, 1).swaps(0, 0), 0);
        is("the last to the front", hastes(3, 2, 1, 4).swaps(0, 0), 3);
        is("the first to the end", hastes(1, 4, 3, 2).swaps(0, 0), 3);
        is("like ones do not pass one another", hastes(1, 2, 1, 2).swaps(0, 0), 3);
        int[] up = new int[24];
        for (int i = 0; i < up.length; i++) {
            up[i] = 4 * i;
        }
        is("of 24", hastes(up).swaps(23, 0), 276);
        AsManyAsCame x = hastes(up);
        for (int i = 0; i < 36; i++) {
            x.born();
        }
        is("of 60, of whom the last are in no haste", x.swaps(59, 0), 276);
        x.smuggle(23);
        x.call(23);
        is("the greatest haste from the end of 60", x.swaps(0, 0), 253 + 59);
    }

    private static void whereOneStands() {
        terms("where one stands then (0 on);");
        is("the only one", hastes(7).swaps(0, 2), 0);
        int[] want = {2, 3, 0, 4, 1};
        AsManyAsCame x = hastes(5, 5, 9, 0, 7);
        for (int person = 0; person < 5; person++) {
            is("of five: " + person, x.swaps(person, 2), want[person]);
        }
        are("THE LIST stays", Due.places(x, 3), 0, 1, 2, 3, 4);
        x.smuggle(0);
        x.call(0);
        is("of like ones as they stand", x.swaps(0, 2), 3);
        is("of like ones as they stand", x.swaps(1, 2), 2);
        AsManyAsCame sixty = numbers(60);
        is("the last of 60", sixty.swaps(59, 2), 59);
        is("the first of 60", sixty.swaps(0, 2), 0);
    }

    private static void price() {
        terms("the price: all differences of HASTE, added.");
        is("none", hastes(5, 5, 4).swaps(0, 1), 0);
        is("one", hastes(4, 5).swaps(0, 1), 1);
        is("99", hastes(0, 99).swaps(0, 1), 99);
        is("4, 4, 2, 2, 7", hastes(5, 5, 9, 0, 7).swaps(0, 1), 19);
        is("twelve of 0 ahead of twelve of 99", hastes(Due.twoParts(12, 0, 12, 99)).swaps(0, 1), 144 * 99);
    }

    private static void hungryDay() {
        terms("LASTS: by told comings: the first of these days (1 on) that is HUNGRY; NONE.");
        AsManyAsCame x = Due.of("town list 12 0 2;" + FIVE);
        Due.fill(x, 0, 0, 1, 0, 0, 1);
        is("4 of 12, 3 of 8, 3 of 5, then 4 of 2", x.lasts(0, 4), 4);
        is("not in three", x.lasts(0, 3), NONE);
        AsManyAsCame just = Due.of("town list 10 0 2;" + FIVE);
        Due.fill(just, 0, 0, 1, 0, 0, 1);
        is("4 of 10, 3 of 6, 3 of 3", just.lasts(0, 3), NONE);
        AsManyAsCame less = Due.of("town list 9 0 2;" + FIVE);
        Due.fill(less, 0, 0, 1, 0, 0, 1);
        is("4 of 9, 3 of 5, 3 of 2", less.lasts(0, 3), 3);
        AsManyAsCame first = Due.of("town list 3 0 2;" + FIVE);
        Due.fill(first, 0, 0, 1, 0);
        is("on day 1", first.lasts(0, 2), 1);
        AsManyAsCame once = Due.of("town list 0 0 20;" + FIVE);
        Due.fill(once, 0, 0, 0, 0, 1, 0);
        is("an empty town is not HUNGRY", once.lasts(0, 2), NONE);
        is("till one comes", once.lasts(0, 3), 3);
        AsManyAsCame pass = Due.of("town kind 20 0 0;" + FIVE);
        Due.fill(pass, 0, 0, 5, 0, 0);
        is("10 of 20, 5 of 10, 5 of 5", pass.lasts(0, 3), NONE);
        Due.fill(pass, 0, 0, 5, 0, 1);
        is("10 of 20, 5 of 10, 6 of 5", pass.lasts(0, 3), 3);
    }

    private static void leftUnseen() {
        terms("UNSEEN: rows of how many came, went out by the gate, and were counted in the town in the evening, "
                + "day by day, from how many there are now:");
        AsManyAsCame x = five("list", 0);
        Due.fill(x, 0, 0, 1, 2, 3, 0, 0, 2, 3, 1, 1);
        is("1, then 1, then 3 of 4", x.unseen(0, 3, 1), 1 + 1 + 3);
        is("of the first day", x.unseen(0, 1, 1), 1);
        x.smuggle(4);
        is("from four", x.unseen(0, 1, 1), 0);
        x.born();
        x.born();
        is("from six", x.unseen(0, 1, 1), 2);
        AsManyAsCame none = Due.of("town list 0 0 0;");
        Due.fill(none, 0, 0, 0, 0, 0);
        is("from nobody", none.unseen(0, 1, 1), 0);
    }

    private static void daysAsBits() {
        terms("on which days (bits, 20 at most) some left unseen");
        AsManyAsCame x = five("list", 0);
        Due.fill(x, 0, 0, 0, 0, 5, 0, 0, 4, 0, 0, 4, 9, 0, 0);
        is("of the second and the fourth", x.unseen(0, 4, 0), 0b1010);
        is("of none", x.unseen(0, 1, 0), 0);
        x.row(0, 0, 39);
        is("of the first", x.unseen(0, 13, 0), 1);
        x.set(0, 36, 1);
        is("of the thirteenth, too", x.unseen(0, 13, 0), 1 | 1 << 12);
        for (int day = 0; day < 13; day++) {
            x.set(0, 3 * day, 1);
        }
        is("of all thirteen", x.unseen(0, 13, 0), (1 << 13) - 1);
        is("of twelve", x.unseen(0, 12, 0), (1 << 12) - 1);
    }

    private static void unseenOne(String what, int came, int out, int counted, int unseen) {
        AsManyAsCame x = five("list", 0);
        Due.fill(x, 0, 0, came, out, counted);
        is(what + ", days", x.unseen(0, 1, 0), unseen == 0 ? 0 : 1);
        is(what + ", all", x.unseen(0, 1, 1), unseen);
    }

    private static void lessThanItMustBe() {
        terms("(the count is less than it must be by the one before); how many in all.");
        unseenOne("just as many", 3, 2, 6, 0);
        unseenOne("one less", 3, 2, 5, 1);
        unseenOne("one more", 3, 2, 7, 0);
        unseenOne("none of six", 3, 2, 0, 6);
        unseenOne("more went out than there were", 0, 99, 0, 0);
        unseenOne("just all went out", 0, 5, 0, 0);
        unseenOne("all but one went out", 0, 4, 0, 1);
        unseenOne("99 came", 99, 0, 0, 104);
        AsManyAsCame x = five("list", 0);
        Due.fill(x, 0, 0, 0, 0, 9, 0, 0, 9, 0, 0, 8);
        is("by the count before, though that was more", x.unseen(0, 3, 0), 0b100);
        is("one in all", x.unseen(0, 3, 1), 1);
        Due.fill(x, 0, 0, 0, 0, 2, 0, 0, 2);
        is("who left is not missed again", x.unseen(0, 2, 1), 3);
    }

    private static void gateToGate() {
        terms("GATE TO GATE: two towns with people enough, who go out of the one come into the other on that day,");
        AsManyAsCame x = new AsManyAsCame();
        int[] first = {5, 7, 5, 7};
        for (int n = 0; n < first.length; n++) {
            is("none stays, n " + n, x.gates(5, 7, 0, n), first[n]);
        }
        is("999 days", x.gates(5, 7, 0, 999), 7);
        is("1000 days", x.gates(5, 7, 0, 1000), 5);
    }

    private static void inTheMarsh() {
        terms("but k of 100 of them (cut: those who come: out times (100 less k) by 100) stay in the marsh:");
        AsManyAsCame x = new AsManyAsCame();
        is("99 of 100 times 1", x.gates(0, 1, 1, 1), 0);
        is("99 of 100 times 100", x.gates(0, 100, 1, 1), 99);
        is("99 of 100 times 101", x.gates(0, 101, 1, 1), 99);
        is("99 of 100 times 999", x.gates(0, 999, 1, 1), 989);
        is("1 of 100 times 999", x.gates(0, 999, 99, 1), 9);
        is("1 of 100 times 99", x.gates(0, 99, 99, 1), 0);
        is("all stay", x.gates(0, 999, 100, 1), 0);
        is("none stays", x.gates(0, 999, 0, 1), 999);
        is("half of half of 999", x.gates(999, 0, 50, 2), 249);
        is("nine of ten, thrice, of 999: 899, 809, 728", x.gates(0, 999, 10, 3), 728);
        is("nothing of the other", x.gates(999, 0, 10, 3), 0);
    }

    private static void intoTheFirst() {
        terms("CAME x and y at first: CAME into the first behind n days.");
        AsManyAsCame x = new AsManyAsCame();
        is("x at first", x.gates(3, 8, 50, 0), 3);
        is("of y behind one", x.gates(3, 8, 50, 1), 4);
        is("of x behind two", x.gates(3, 8, 50, 2), 0);
        is("of y behind three", x.gates(3, 8, 50, 3), 1);
    }

    private static void whatOfSwaps() {
        promise(18, "SWAPS: how many (what = 0), the price (1), where one stands (2).");
        AsManyAsCame x = hastes(1, 2, 4);
        int[] want = {3, 1 + 3 + 2, 0};
        for (int what = 0; what <= 2; what++) {
            is("what " + what, x.swaps(2, what), want[what]);
        }
        is("of the first", x.swaps(0, 2), 2);
        is("the price is one for all", x.swaps(0, 1), 6);
    }

    private static void personOfSwaps() {
        promise(18, "BAD: one who is out, too.");
        is("the last number", whole().swaps(8, 2), 5);
        refusedOf("person", (x, person) -> x.swaps(person, 0), BAD, -1, 9, 60, LEAST, MOST);
        refusedOf("one who went out, was SMUGGLED", (x, person) -> x.swaps(person, 1), BAD, 0, 3, 4);
        refusedOf("what", (x, what) -> x.swaps(1, what), BAD, -1, 3, LEAST, MOST);
        refused("no TOWN", Edges::townless, x -> x.swaps(0, 0), BAD);
        AsManyAsCame x = whole();
        x.call(3);
        is("one who was called back", x.swaps(3, 2), 1);
    }

    private static void lastsOrNone() {
        promise(19, "LASTS; NONE.");
        AsManyAsCame x = whole();
        is("day 5", x.lasts(0, 5), 5);
        x.as(1, 4);
        is("NONE", x.lasts(0, 4), NONE);
        is("a NONE is no FINDING", x.status(), 0);
    }

    private static void rowAndDaysOfLasts() {
        promise(19, "BAD: ROW, m;");
        AsManyAsCame x = whole();
        x.row(7, 2, 20);
        is("row 7, m 20: eleven times 4 of 44", x.lasts(7, 20), 12);
        is("row 0, m 1", x.lasts(0, 1), NONE);
        refusedOf("row", (y, row) -> y.lasts(row, 1), BAD, -1, 8, LEAST, MOST);
        refusedOf("m", (y, m) -> y.lasts(0, m), BAD, 0, 21, -1, LEAST, MOST);
        refused("m, ahead of NULL", y -> y.lasts(3, 21), BAD);
    }

    private static void lastsWithoutTown() {
        promise(19, "STATE: no TOWN (ahead of BAD);");
        refused("lasts", Edges::townless, x -> x.lasts(0, 1), STATE);
        refused("ahead of BAD: row", Edges::townless, x -> x.lasts(8, 1), STATE);
        refused("ahead of BAD: m", Edges::townless, x -> x.lasts(0, 0), STATE);
        refused("ahead of NULL", Edges::townless, x -> x.lasts(3, 1), STATE);
    }

    private static void rowsToLasts() {
        promise(19, "NULL; PLACE;");
        found("a row that is missing", x -> x.lasts(3, 1), NULL);
        found("twenty days of it", x -> x.lasts(7, 20), NULL);
        found("six of five", x -> x.lasts(0, 6), PLACE);
        found("one of none", x -> x.lasts(2, 1), PLACE);
    }

    private static AsManyAsCame item(int i, int item) {
        AsManyAsCame x = whole();
        x.row(3, 2, 6);
        x.set(3, i, item);
        x.as(1, 4);
        return x;
    }

    private static void itemsOfLasts() {
        promise(19, "then BAD: an ITEM.");
        for (int i = 0; i <= 2; i++) {
            int at = i;
            is("0", item(i, 0).lasts(3, 3), NONE);
            is("20", item(i, 20).lasts(3, 3), NONE);
            for (int item : new int[] {-1, 21}) {
                refused("item " + i + " is " + item, () -> item(at, item), x -> x.lasts(3, 3), BAD);
            }
            found("PLACE is ahead of it", () -> item(at, 21), x -> x.lasts(3, 7), PLACE);
        }
        is("one behind m", item(2, 21).lasts(3, 2), NONE);
    }

    private static void daysOfUnseen() {
        promise(20, "UNSEEN, m days (1 to 13), three ITEMS each (came, out, counted; 0 to 99) of a ROW "
                + "from its beginning on:");
        AsManyAsCame x = five("list", 0);
        x.row(0, 0, 39);
        is("m 1", x.unseen(0, 1, 1), 5);
        is("m 13, of 39 items", x.unseen(0, 13, 1), 5);
        is("m 0", x.unseen(0, 0, 1), BAD);
        is("m 14", x.unseen(0, 14, 1), BAD);
        x.row(0, 0, 38);
        is("m 13, of 38 items", x.unseen(0, 13, 1), PLACE);
        is("m 12, of 38 items", x.unseen(0, 12, 1), 5);
        Due.fill(x, 0, 2, 99, 99, 99, 100, 100, 100);
        is("99", x.unseen(0, 1, 1), 0);
        is("100", x.unseen(0, 2, 1), BAD);
    }

    private static void whatOfUnseen() {
        promise(20, "days (what = 0), how many (1).");
        AsManyAsCame x = five("list", 0);
        Due.fill(x, 0, 0, 0, 0, 5, 4, 0, 1);
        is("days", x.unseen(0, 2, 0), 2);
        is("how many", x.unseen(0, 2, 1), 8);
        is("an answer has no FINDING", x.status(), 0);
    }

    private static void numbersOfUnseen() {
        promise(20, "BAD: ROW, m, what;");
        AsManyAsCame x = whole();
        x.row(7, 0, 40);
        is("row 7, m 13, what 1", x.unseen(7, 13, 1), 6);
        is("row 0, m 1, what 0", x.unseen(0, 1, 0), 1);
        refusedOf("row", (y, row) -> y.unseen(row, 1, 0), BAD, -1, 8, LEAST, MOST);
        refusedOf("m", (y, m) -> y.unseen(0, m, 0), BAD, 0, 14, -1, LEAST, MOST, 1431655766);
        refusedOf("what", (y, what) -> y.unseen(0, 1, what), BAD, -1, 2, LEAST, MOST);
        refused("m, ahead of NULL", y -> y.unseen(3, 14, 0), BAD);
        refused("what, ahead of NULL", y -> y.unseen(3, 1, 2), BAD);
    }

    private static void unseenWithoutTown() {
        promise(20, "STATE: no TOWN (ahead of BAD);");
        refused("unseen", Edges::townless, x -> x.unseen(0, 1, 0), STATE);
        refused("ahead of BAD: row", Edges::townless, x -> x.unseen(8, 1, 0), STATE);
        refused("ahead of BAD: m", Edges::townless, x -> x.unseen(0, 0, 0), STATE);
        refused("ahead of BAD: what", Edges::townless, x -> x.unseen(0, 1, 2), STATE);
        refused("ahead of NULL", Edges::townless, x -> x.unseen(3, 1, 0), STATE);
    }

    private static void rowsToUnseen() {
        promise(20, "NULL; PLACE;");
        found("a row that is missing", x -> x.unseen(3, 1, 0), NULL);
        found("thirteen days of it", x -> x.unseen(7, 13, 1), NULL);
        found("six of five", x -> x.unseen(0, 2, 0), PLACE);
        found("three of none", x -> x.unseen(2, 1, 0), PLACE);
        is("three of three", whole().unseen(1, 1, 1), 0);
        for (int n = 0; n <= 3; n++) {
            AsManyAsCame x = whole();
            x.row(1, 1, n);
            is("three of " + n, x.unseen(1, 1, 1), n < 3 ? PLACE : 6);
        }
    }

    private static void itemsOfUnseen() {
        promise(20, "then BAD: an ITEM.");
        int[] by99 = {105, 0, 99, 105, 6, 6};
        for (int i = 0; i <= 5; i++) {
            int at = i;
            is("0", item(i, 0).unseen(3, 2, 1), 6);
            is("99", item(i, 99).unseen(3, 2, 1), by99[i]);
            for (int item : new int[] {-1, 100}) {
                refused("item " + i + " is " + item, () -> item(at, item), x -> x.unseen(3, 2, 1), BAD);
            }
            found("PLACE is ahead of it", () -> item(at, 100), x -> x.unseen(3, 3, 0), PLACE);
        }
        is("one behind m", item(3, 100).unseen(3, 1, 1), 6);
    }

    private static void numbersOfGates() {
        promise(21, "GATE TO GATE (x, y 0 to 999, k 0 to 100, n 0 to 1000).");
        AsManyAsCame x = new AsManyAsCame();
        is("x 0", x.gates(0, 9, 0, 2), 0);
        is("x 999", x.gates(999, 9, 0, 2), 999);
        is("y 0", x.gates(9, 0, 0, 1), 0);
        is("y 999", x.gates(9, 999, 0, 1), 999);
        is("k 0", x.gates(9, 9, 0, 1), 9);
        is("k 100", x.gates(9, 9, 100, 1), 0);
        is("n 0", x.gates(9, 8, 0, 0), 9);
        is("n 1000", x.gates(9, 8, 0, 1000), 9);
    }

    private static void beyondGates() {
        promise(21, "BAD.");
        int[][] beyond = {{-1, 0, 0, 0}, {1000, 0, 0, 0}, {0, -1, 0, 0}, {0, 1000, 0, 0}, {0, 0, -1, 0},
            {0, 0, 101, 0}, {0, 0, 0, -1}, {0, 0, 0, 1001}, {LEAST, 0, 0, 0}, {0, MOST, 0, 0}, {0, 0, LEAST, 0},
            {0, 0, 0, MOST}};
        for (int[] k : beyond) {
            String call = "gates(" + k[0] + ", " + k[1] + ", " + k[2] + ", " + k[3] + ")";
            refused(call, x -> x.gates(k[0], k[1], k[2], k[3]), BAD);
        }
        is("no TOWN is needed", townless().gates(1, 2, 3, 0), 1);
    }

    private static void kept() {
        promise(22, "An IMAGE (0, 1) is kept of the TOWN: 1.");
        for (int k = 0; k <= 1; k++) {
            AsManyAsCame x = whole("");
            is("image", x.image(k), 1);
            is("status() stays", x.status(), 3);
            x.day(3, 3);
            x.call(0);
            Due.read(x, "town list 0 0 0;");
            x.ask(0, 0);
            x.restore(k);
            AsManyAsCame y = whole("");
            are("counts are as kept", Due.counts(x), Due.counts(y));
            y.image(k);
            sameFromNowOn("behind restore(" + k + ")", x, y);
        }
        AsManyAsCame twice = five("list", 0);
        twice.image(0);
        twice.born();
        is("in place of the one before", twice.image(0), 1);
        twice.born();
        twice.restore(0);
        is("six", twice.count(1), 6);
    }

    private static void imagesThereAre() {
        promise(22, "BAD;");
        is("0", whole().image(0), 1);
        is("1", whole().image(1), 1);
        refusedOf("image", (x, k) -> x.image(k), BAD, -1, 2, LEAST, MOST);
        refused("ahead of STATE", Edges::townless, x -> x.image(2), BAD);
        refused("ahead of STATE", Edges::townless, x -> x.image(-1), BAD);
    }

    private static void imageWithoutTown() {
        promise(22, "STATE: no TOWN.");
        refused("image(0)", Edges::townless, x -> x.image(0), STATE);
        refused("image(1)", Edges::townless, x -> x.image(1), STATE);
        is("a town of nobody is one", Due.of("town list 0 0 0;").image(1), 1);
    }

    private static void asKept() {
        promise(23, "The TOWN is as an IMAGE kept it: 1.");
        AsManyAsCame x = Due.of("town kind 5 3 2;person pilgrim 3 4;person hired 5 6;person born 7 8;");
        x.day(2, 1);
        x.day(4, 2);
        x.smuggle(2);
        int[] counts = Due.counts(x);
        are("counts", counts, 0, 9, 4, 2, 2, 9, 1, 4, 0);
        x.image(1);
        x.born();
        x.call(2);
        x.day(6, 6);
        is("restore", x.restore(1), 1);
        are("counts again", Due.counts(x), counts);
        is("again", x.restore(1), 1);
        is("who is out", x.person(1, 5), 1);
        is("who was smuggled", x.person(2, 3), NONE);
        is("his KIND", x.kind(2), 4);
        is("law, CAME", x.day(1, 1), 4);
        is("PAY", x.count(5), 12);
        AsManyAsCame full = numbers(60);
        full.image(0);
        Due.read(full, "town list 0 0 0;");
        full.image(1);
        is("sixty", full.restore(0), 1);
        is("the last of them", full.person(59, 3), 59);
        is("full as it was", full.born(), FULL);
        is("nobody", full.restore(1), 1);
        is("the numbers begin anew", full.born(), 0);
        is("alone", full.count(2), 1);
    }

    private static void imagesToRestore() {
        promise(23, "BAD;");
        is("0", whole().restore(0), 1);
        refusedOf("restore", (x, k) -> x.restore(k), BAD, -1, 2, LEAST, MOST);
        refused("no TOWN", Edges::townless, x -> x.restore(2), BAD);
    }

    private static void noneWasKept() {
        promise(23, "STATE: none was kept.");
        refused("1, while 0 was", x -> x.restore(1), STATE);
        refused("0", Edges::townless, x -> x.restore(0), STATE);
        refused("1", Edges::townless, x -> x.restore(1), STATE);
        AsManyAsCame x = five("list", 0);
        is("a TOWN is no IMAGE", x.restore(0), STATE);
        x.image(1);
        is("0, while 1 was", x.restore(0), STATE);
        is("1", x.restore(1), 1);
    }
}
