/** Edges of promises 1 to 5 and of the terms on ROWS. */
final class RowEdges extends Edges {
    static void all() {
        noTown();
        missingAtFirst();
        lanes();
        fewestAndMostItems();
        itemsAtFirst();
        inPlaceOfWhatIsThere();
        rowsOfRow();
        lanesOfRow();
        moreThanForty();
        fewerThanNone();
        lowestBits();
        rowsOfSet();
        missingToSet();
        placesToSet();
        copied();
        copiedOverItself();
        rowsOfCopy();
        missingToCopy();
        twoLanes();
        placesToCopy();
        beyondAnEnd();
        dropped();
        rowsOfDrop();
        missingToDrop();
    }

    private static void noTown() {
        promise(1, "No TOWN.");
        AsManyAsCame x = new AsManyAsCame();
        is("day", x.day(0, 0), STATE);
        is("born", x.born(), STATE);
        is("hire", x.hire(0, 0, 1), STATE);
        is("lasts", x.lasts(0, 1), STATE);
        is("unseen", x.unseen(0, 1, 0), STATE);
        is("image", x.image(0), STATE);
        is("restore", x.restore(1), STATE);
        is("person", x.person(0, 0), BAD);
        is("kind", x.kind(0), BAD);
        are("counts", Due.counts(x), 0, 0, 0, 0, 0, 0, 0, 0, 0);
        is("fault", x.fault(), 0);
        is("status", x.status(), 0);
        is("trace", x.trace(0), NONE);
    }

    private static void missingAtFirst() {
        terms("ROWS 0 .. 7 are missing (at first)");
        AsManyAsCame x = new AsManyAsCame();
        for (int row = 0; row <= 7; row++) {
            is("set of row " + row, x.set(row, 0, 0), NULL);
            is("drop of row " + row, x.drop(row), NULL);
        }
        is("row -1", x.drop(-1), BAD);
        is("row 8", x.drop(8), BAD);
        is("count(0) of none", x.count(0), 0);
        for (int row = 0; row <= 7; row++) {
            is("row " + row, x.row(row, 0, row + 1), row + 1);
            is("count(0)", x.count(0), row + 1);
        }
        for (int row = 0; row <= 7; row++) {
            is("each row has its own items: " + row, x.drop(row), row + 1);
        }
    }

    private static void lanes() {
        terms("or have a LANE (0 bytes, 1 shorts, 2 ints)");
        AsManyAsCame x = new AsManyAsCame();
        int[] kept = {(byte) 70000, (short) 70000, 70000};
        for (int lane = 0; lane <= 2; lane++) {
            is("lane " + lane, x.row(0, lane, 1), 1);
            is("70000 in lane " + lane, x.set(0, 0, 70000), kept[lane]);
        }
    }

    private static void fewestAndMostItems() {
        terms("and 0 to 40 ITEMS");
        AsManyAsCame x = new AsManyAsCame();
        for (int lane = 0; lane <= 2; lane++) {
            is("none", x.row(lane, lane, 0), 0);
            is("none is item 0", x.set(lane, 0, 1), PLACE);
            is("forty", x.row(lane, lane, 40), 40);
            is("item 0", x.set(lane, 0, 7), 7);
            is("item 39", x.set(lane, 39, 8), 8);
            is("none is item 40", x.set(lane, 40, 1), PLACE);
        }
    }

    private static void itemsAtFirst() {
        terms(", 0 at first.");
        AsManyAsCame x = Due.of("town list 0 0 0;");
        x.row(0, 0, 40);
        are("of a new row", items(x, 0), new int[40]);
        Due.fill(x, 0, 0, Due.repeated(40, 9));
        x.row(0, 0, 40);
        are("of a row in place of one", items(x, 0), new int[40]);
        Due.fill(x, 0, 2, Due.repeated(40, 9));
        x.drop(0);
        x.row(0, 1, 40);
        are("of a row behind one that is missing", items(x, 0), new int[40]);
        Due.fill(x, 0, 1, Due.repeated(40, 9));
        x.row(0, 1, 0);
        x.row(0, 1, 40);
        are("of a row behind an empty one", items(x, 0), new int[40]);
    }

    private static void inPlaceOfWhatIsThere() {
        promise(2, "A ROW of a LANE with n ITEMS, in place of what is there: n.");
        AsManyAsCame x = Due.of("town list 0 0 0;");
        Due.fill(x, 3, 0, 5, 6, 7);
        is("fewer items", x.row(3, 2, 1), 1);
        is("its lane", lane(x, 3), 2);
        is("its end", x.set(3, 1, 0), PLACE);
        is("more items", x.row(3, 1, 40), 40);
        is("its lane", lane(x, 3), 1);
        is("its last item", x.set(3, 39, 70000), 4464);
        is("no items", x.row(3, 0, 0), 0);
        is("one row and row 7", x.count(0), 2);
        is("it has none", x.drop(3), 0);
    }

    private static void rowsOfRow() {
        promise(2, "BAD: ROW");
        AsManyAsCame x = whole();
        is("row 0", x.row(0, 0, 1), 1);
        is("row 7", x.row(7, 0, 1), 1);
        refusedOf("row", (y, row) -> y.row(row, 0, 1), BAD, -1, 8, LEAST, MOST);
    }

    private static void lanesOfRow() {
        promise(2, ", LANE,");
        AsManyAsCame x = whole();
        is("lane 0", x.row(0, 0, 1), 1);
        is("lane 2", x.row(0, 2, 1), 1);
        refusedOf("lane", (y, lane) -> y.row(0, lane, 1), BAD, -1, 3, LEAST, MOST);
        refusedOf("lane of a row that is missing", (y, lane) -> y.row(7, lane, 1), BAD, -1, 3);
    }

    private static void moreThanForty() {
        promise(2, "n above 40");
        AsManyAsCame x = whole();
        is("n 40", x.row(0, 0, 40), 40);
        refusedOf("n", (y, n) -> y.row(0, 0, n), BAD, 41, MOST);
        refusedOf("n of a row that is missing", (y, n) -> y.row(7, 0, n), BAD, 41);
    }

    private static void fewerThanNone() {
        promise(2, "SIZE.");
        AsManyAsCame x = whole();
        is("n 0", x.row(0, 0, 0), 0);
        for (int n : new int[] {-1, LEAST}) {
            found("n " + n, y -> y.row(0, 0, n), SIZE);
            found("n " + n + " of a row that is missing", y -> y.row(7, 2, n), SIZE);
            refused("BAD ahead of it: row", y -> y.row(8, 0, n), BAD);
            refused("BAD ahead of it: lane", y -> y.row(0, 3, n), BAD);
        }
    }

    private static void lowestBits() {
        promise(3, "ITEM i becomes v, its lowest bits, as many as the LANE has (read with their sign): "
                + "what it is then.");
        int[] told = {0, 127, 128, 129, 255, 256, -1, -128, -129, -256, 32767, 32768, 65535, 65536, -32768, -32769,
            MOST, LEAST};
        int[][] kept = {
            {0, 127, -128, -127, -1, 0, -1, -128, 127, 0, -1, 0, -1, 0, 0, -1, -1, 0},
            {0, 127, 128, 129, 255, 256, -1, -128, -129, -256, 32767, -32768, -1, 0, -32768, 32767, -1, 0},
            told};
        AsManyAsCame x = Due.of("town list 0 0 0;");
        for (int lane = 0; lane <= 2; lane++) {
            x.row(0, lane, 3);
            for (int k = 0; k < told.length; k++) {
                is(told[k] + " in lane " + lane, x.set(0, 1, told[k]), kept[lane][k]);
            }
        }
        int[] wraps = {256 + 99, 65536 * 3 + 99, 99};
        for (int lane = 0; lane <= 2; lane++) {
            x.row(0, lane, 3);
            x.set(0, 1, wraps[lane]);
            are("what the row has then", items(x, 0), 0, 99, 0);
        }
    }

    private static void rowsOfSet() {
        promise(3, "BAD: ROW");
        AsManyAsCame x = whole();
        x.row(7, 0, 1);
        is("row 0", x.set(0, 0, 9), 9);
        is("row 7", x.set(7, 0, 9), 9);
        refusedOf("row", (y, row) -> y.set(row, 0, 9), BAD, -1, 8, LEAST, MOST);
        refusedOf("row, ahead of PLACE", (y, row) -> y.set(row, -1, 9), BAD, -1, 8);
    }

    private static void missingToSet() {
        promise(3, "NULL");
        found("a row that is missing", x -> x.set(3, 0, 9), NULL);
        found("the last one", x -> x.set(7, 0, 9), NULL);
        found("ahead of PLACE", x -> x.set(3, -1, 9), NULL);
        AsManyAsCame x = whole();
        x.drop(0);
        is("a row that was dropped", x.set(0, 0, 9), NULL);
    }

    private static void placesToSet() {
        promise(3, "PLACE.");
        AsManyAsCame x = whole();
        is("item 0", x.set(0, 0, 9), 9);
        is("item 4 of five", x.set(0, 4, 9), 9);
        for (int i : new int[] {-1, 5, 39, 40, LEAST, MOST}) {
            found("item " + i + " of five", y -> y.set(0, i, 9), PLACE);
        }
        for (int i : new int[] {-1, 0}) {
            found("item " + i + " of an empty row", y -> y.set(2, i, 9), PLACE);
        }
    }

    private static void copied() {
        promise(4, "n ITEMS of a from i on come to b from j on");
        AsManyAsCame x = Due.of("town list 0 0 0;");
        for (int lane = 0; lane <= 2; lane++) {
            Due.fill(x, 0, lane, 1, 2, 3, 4, 5);
            Due.fill(x, 1, lane, 11, 12, 13);
            is("two", x.copy(1, 1, 0, 3, 2), 2);
            are("come to b", items(x, 0), 1, 2, 3, 12, 13);
            are("stay in a", items(x, 1), 11, 12, 13);
            is("none", x.copy(1, 0, 0, 0, 0), 0);
            are("none comes", items(x, 0), 1, 2, 3, 12, 13);
        }
        Due.fill(x, 0, 1, Due.repeated(40, 7, 8, 9));
        x.row(1, 1, 40);
        is("forty", x.copy(0, 0, 1, 0, 40), 40);
        are("all forty", items(x, 1), Due.repeated(40, 7, 8, 9));
    }

    private static void copiedOverItself() {
        promise(4, ", as they were ahead: n.");
        AsManyAsCame x = Due.of("town list 0 0 0;");
        Due.fill(x, 0, 0, 1, 2, 3, 4, 5);
        is("up by one", x.copy(0, 0, 0, 1, 4), 4);
        are("up by one", items(x, 0), 1, 1, 2, 3, 4);
        Due.fill(x, 0, 0, 1, 2, 3, 4, 5);
        is("down by one", x.copy(0, 1, 0, 0, 4), 4);
        are("down by one", items(x, 0), 2, 3, 4, 5, 5);
        Due.fill(x, 0, 0, 1, 2, 3, 4, 5);
        is("up by two", x.copy(0, 0, 0, 2, 3), 3);
        are("up by two", items(x, 0), 1, 2, 1, 2, 3);
        is("all on itself", x.copy(0, 0, 0, 0, 5), 5);
        are("all on itself", items(x, 0), 1, 2, 1, 2, 3);
        is("one to the other end", x.copy(0, 0, 0, 4, 1), 1);
        are("one to the other end", items(x, 0), 1, 2, 1, 2, 1);
    }

    private static void rowsOfCopy() {
        promise(4, "BAD: ROWS");
        AsManyAsCame x = whole();
        x.row(7, 0, 1);
        is("rows 0 and 7", x.copy(0, 0, 7, 0, 1), 1);
        is("rows 7 and 0", x.copy(7, 0, 0, 0, 1), 1);
        refusedOf("a", (y, a) -> y.copy(a, 0, 0, 0, 1), BAD, -1, 8, LEAST, MOST);
        refusedOf("b", (y, b) -> y.copy(0, 0, b, 0, 1), BAD, -1, 8, LEAST, MOST);
        refused("b, ahead of a that is missing", y -> y.copy(3, 0, 8, 0, 1), BAD);
        refused("a, ahead of b that is missing", y -> y.copy(8, 0, 3, 0, 1), BAD);
        refused("a, ahead of PLACE", y -> y.copy(8, -1, 0, 0, 1), BAD);
    }

    private static void missingToCopy() {
        promise(4, "NULL");
        found("a", x -> x.copy(3, 0, 0, 0, 1), NULL);
        found("b", x -> x.copy(0, 0, 3, 0, 1), NULL);
        found("both", x -> x.copy(3, 0, 3, 0, 0), NULL);
        found("a, ahead of PLACE", x -> x.copy(3, -1, 0, 0, 1), NULL);
        found("b, ahead of PLACE", x -> x.copy(0, -1, 3, 0, 1), NULL);
    }

    private static void twoLanes() {
        promise(4, "STORE");
        for (int a = 0; a <= 2; a++) {
            int from = a;
            for (int b = 0; b <= 2; b++) {
                int to = b;
                if (a == b) {
                    AsManyAsCame x = whole();
                    is("one lane " + a, x.copy(a, 0, a, 0, 0), 0);
                } else {
                    found("lanes " + a + " and " + b, x -> x.copy(from, 0, to, 0, 0), STORE);
                }
            }
        }
        found("ahead of PLACE: i", x -> x.copy(0, -1, 1, 0, 1), STORE);
        found("ahead of PLACE: j", x -> x.copy(0, 0, 1, 9, 1), STORE);
        found("ahead of PLACE: n", x -> x.copy(1, 0, 2, 0, -1), STORE);
        AsManyAsCame x = whole();
        x.row(1, 0, 3);
        is("two rows of one lane", x.copy(0, 0, 1, 0, 3), 3);
    }

    private static AsManyAsCame twoRows() {
        AsManyAsCame x = whole();
        Due.fill(x, 3, 0, 11, 12, 13);
        return x;
    }

    private static void placesToCopy() {
        promise(4, "PLACE (i, j, n below 0");
        is("i 0, j 0, n 0", twoRows().copy(0, 0, 3, 0, 0), 0);
        for (int below : new int[] {-1, LEAST}) {
            found("i", RowEdges::twoRows, x -> x.copy(0, below, 3, 0, 1), PLACE);
            found("j", RowEdges::twoRows, x -> x.copy(0, 0, 3, below, 1), PLACE);
            found("n", RowEdges::twoRows, x -> x.copy(0, 0, 3, 0, below), PLACE);
            found("i, of none", RowEdges::twoRows, x -> x.copy(0, below, 3, 0, 0), PLACE);
            found("j, of none", RowEdges::twoRows, x -> x.copy(0, 0, 3, below, 0), PLACE);
        }
        found("n -1 at the ends", RowEdges::twoRows, x -> x.copy(0, 5, 3, 3, -1), PLACE);
    }

    private static void beyondAnEnd() {
        promise(4, "or beyond an end).");
        is("all of b", twoRows().copy(0, 2, 3, 0, 3), 3);
        is("the last of a to the last of b", twoRows().copy(0, 4, 3, 2, 1), 1);
        is("none at the ends", twoRows().copy(0, 5, 3, 3, 0), 0);
        int[][] beyond = {{0, 0, 4}, {0, 1, 3}, {3, 0, 3}, {5, 0, 1}, {0, 3, 1}, {6, 0, 0}, {0, 4, 0}, {1, 0, MOST},
            {0, 1, MOST}, {MOST, 0, 1}, {0, MOST, 1}, {MOST, MOST, MOST}, {MOST, 0, 0}, {0, MOST, 0}};
        for (int[] k : beyond) {
            String call = "copy of " + k[2] + " from " + k[0] + " to " + k[1];
            found(call, RowEdges::twoRows, x -> x.copy(0, k[0], 3, k[1], k[2]), PLACE);
        }
    }

    private static void dropped() {
        promise(5, "A ROW is missing from now on: how many ITEMS it had.");
        AsManyAsCame x = whole();
        x.row(7, 2, 40);
        is("of five", x.drop(0), 5);
        is("of none", x.drop(2), 0);
        is("of forty", x.drop(7), 40);
        is("row 1 is there", x.count(0), 1);
        is("missing to drop", x.drop(0), NULL);
        is("missing to set", x.set(7, 0, 1), NULL);
        is("missing to copy", x.copy(2, 0, 2, 0, 0), NULL);
        is("missing to lasts", x.lasts(0, 1), NULL);
        is("row 1 stays", x.drop(1), 3);
    }

    private static void rowsOfDrop() {
        promise(5, "BAD");
        AsManyAsCame x = whole();
        x.row(7, 0, 1);
        is("row 0", x.drop(0), 5);
        is("row 7", x.drop(7), 1);
        refusedOf("row", (y, row) -> y.drop(row), BAD, -1, 8, LEAST, MOST);
    }

    private static void missingToDrop() {
        promise(5, "; NULL.");
        found("a row that is missing", x -> x.drop(3), NULL);
        found("the last one", x -> x.drop(7), NULL);
    }
}
