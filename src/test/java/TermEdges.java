/** Edges of what the document says ahead of its promises: how long an object is used, the face, numbers, refusals. */
final class TermEdges extends Edges {
    static void all() {
        fiveHundredAndTwelveCalls();
        dearCalls();
        constants();
        fromNoughtOn();
        cutTowardsNought();
        lowestTerms();
        setsAreBits();
        firstThatFits();
        firstInTime();
        findings();
        changesNothing();
    }

    private static void fiveHundredAndTwelveCalls() {
        says("What it is", "An object is used for at most 512 calls after it has been made;");
        AsManyAsCame x = new AsManyAsCame();
        for (int call = 1; call <= 500; call++) {
            is("feed", x.feed(' ', 1), call);
        }
        is("call 501", x.feed(' ', 1), FULL);
        is("call 502", x.town(), -1000600);
        is("call 503", x.fault(), 1);
        is("call 504", x.feed(0x746f776e206c6973L, 8), 8);
        is("call 505", x.feed(0x74203020302030L, 7), 15);
        is("call 506", x.feed(';', 1), 16);
        is("call 507", x.town(), 0);
        is("call 508", x.born(), 0);
        is("call 509", x.day(20, 20), 0);
        is("call 510", x.row(7, 0, 40), 40);
        is("call 511", x.hire(1, 7, 20), 0);
        is("call 512", x.ask(20, 0), -20);
    }

    private static void dearCalls() {
        says("What it is", "An object is used for at most 512 calls after it has been made;");
        for (int what = 0; what <= 1; what++) {
            AsManyAsCame x = numbers(60);
            x.row(0, 0, 20);
            Due.fill(x, 1, 0, Due.repeated(20, 9));
            for (int call = 150; call < 512; call += 6) {
                is("odds", x.odds(59, 0, 1, 8, what), what == 0 ? 3 : 250000);
                is("hire", x.hire(MOST, 0, 20), 24);
                is("span", x.span(59, 0, 1, 20, what), what == 0 ? 8 : NONE);
                is("lasts", x.lasts(1, 20), 2);
                is("gates", x.gates(999, 1, 0, 999 + what), what == 0 ? 1 : 999);
                is("swaps", x.swaps(59, 2), 59);
            }
        }
    }

    private static void constants() {
        says("The public face", "NONE = -1000000, BAD = -1000001, STATE = -1000002, FULL = -1000003;");
        is("NONE", AsManyAsCame.NONE, -1000000);
        is("BAD", AsManyAsCame.BAD, -1000001);
        is("STATE", AsManyAsCame.STATE, -1000002);
        is("FULL", AsManyAsCame.FULL, -1000003);
    }

    private static void fromNoughtOn() {
        terms("Numbers go from 0 on.");
        AsManyAsCame x = Due.of("town list 0 0 0;" + ONE);
        is("the first number", x.kind(0), 4);
        is("the second", x.born(), 1);
        is("the first place", x.person(0, 3), 0);
        is("by WHO GOES", x.person(0, 4), 0);
        is("row 0, item 0", x.row(0, 0, 1) + x.set(0, 0, 5), 6);
        is("there is no -1", x.kind(-1), BAD);
        is("of THE TRACE", x.ask(0, 0) + x.trace(0), -99 + 13);
        is("IMAGE 0", x.image(0), 1);
    }

    private static void cutTowardsNought() {
        terms("All that is divided is cut towards 0,");
        AsManyAsCame x = new AsManyAsCame();
        is("99 by 100", x.gates(0, 1, 1, 1), 0);
        is("199 by 100", x.gates(0, 199, 99, 1), 1);
        is("100 by 100", x.gates(0, 100, 99, 1), 1);
    }

    private static void lowestTerms() {
        terms("but fractions, told as two numbers in lowest terms (0 is 0 by 1).");
        AsManyAsCame x = Due.of("town list 0 0 0;" + Due.many(ONE, 10));
        x.row(0, 0, 2);
        int[][] lowest = {{9, 10}, {4, 5}, {7, 10}, {3, 5}, {1, 2}, {2, 5}, {3, 10}, {1, 5}, {1, 10}, {0, 1}};
        Due.fill(x, 1, 0, 9, 0);
        for (int person = 0; person < 10; person++) {
            is("above of " + person, x.odds(person, 0, 1, 2, 0), lowest[person][0]);
            is("below of " + person, x.odds(person, 0, 1, 2, 1), lowest[person][1]);
        }
        x.row(1, 0, 2);
        is("0 of 1 is 0", x.odds(0, 0, 1, 2, 0), 0);
        is("by 1", x.odds(0, 0, 1, 2, 1), 1);
        AsManyAsCame out = Due.of("town list 0 0 1;" + ONE);
        Due.fill(out, 0, 0, 0, 0);
        Due.fill(out, 1, 0, 9, 9);
        is("all is 1", out.odds(0, 0, 1, 2, 0), 1);
        is("by 1", out.odds(0, 0, 1, 2, 1), 1);
    }

    private static void setsAreBits() {
        terms("Sets are bits.");
        AsManyAsCame x = five("list", 3);
        Due.fill(x, 0, 0, 0, 0, 4, 0, 0, 4, 0, 0, 3);
        is("0, 1, 2", x.hire(0b00111, 0, 1), 0);
        is("3", x.hire(0b01000, 0, 1), NONE);
        is("days 0 and 2", x.unseen(0, 3, 0), 0b101);
    }

    private static void firstThatFits() {
        terms("Refusals are answers, the first of these that fits, but as told: BAD (a number is not as told; there is "
                + "no such thing), STATE (as told), FULL (as told), then FINDINGS,");
        AsManyAsCame none = new AsManyAsCame();
        is("BAD ahead of STATE: image", none.image(2), BAD);
        is("BAD ahead of STATE: restore", none.restore(2), BAD);
        is("BAD ahead of NULL", none.drop(8), BAD);
        is("STATE ahead of NULL", none.lasts(0, 1), STATE);
        is("STATE ahead of BAD, as told", none.lasts(8, 0), STATE);
        AsManyAsCame full = numbers(60);
        is("BAD ahead of FULL", full.day(1, 2), BAD);
        is("FULL", full.day(1, 1), FULL);
        is("BAD ahead of STATE: smuggle", full.smuggle(60), BAD);
        is("STATE: call", full.call(59), STATE);
        is("BAD ahead of SIZE", full.row(0, 3, -1), BAD);
        is("a BAD ITEM behind PLACE, as told", itemBehindPlace(2), PLACE);
        is("a BAD ITEM", itemBehindPlace(1), BAD);
    }

    private static int itemBehindPlace(int m) {
        AsManyAsCame x = five("list", 0);
        Due.fill(x, 0, 0, 21);
        return x.lasts(0, m);
    }

    private static void firstInTime() {
        terms("of several the first in time:");
        found("NULL ahead of PLACE", x -> x.set(3, -1, 0), NULL);
        found("NULL ahead of STORE", x -> x.copy(3, 0, 1, 0, 0), NULL);
        found("STORE ahead of PLACE", x -> x.copy(0, -1, 1, 0, 0), STORE);
        found("the first ROW's PLACE ahead of the second's NULL", x -> x.span(1, 2, 3, 1, 0), PLACE);
    }

    private static void findings() {
        terms("-1000010 less 1 NULL (a ROW that is missing), 2 PLACE (no such place of a ROW), "
                + "3 KIND (a PERSON that is not that), 4 SIZE (fewer than none), 5 STORE (ROWS of two LANES).");
        found("NULL", x -> x.drop(3), -1000011);
        found("PLACE", x -> x.set(0, 5, 0), -1000012);
        found("KIND", x -> x.as(1, 5), -1000013);
        found("SIZE", x -> x.row(0, 0, -1), -1000014);
        found("STORE", x -> x.copy(0, 0, 1, 0, 0), -1000015);
    }

    private static void changesNothing() {
        terms("What is refused, or found, changes nothing but status().");
        refused("BAD", x -> x.row(0, 0, 41), BAD);
        refused("STATE", x -> x.smuggle(0), STATE);
        refused("FULL", () -> whole(Due.many(";", 499)), x -> x.feed(0, 2), FULL);
        found("SIZE", x -> x.row(0, 2, -1), SIZE);
        found("PLACE", x -> x.copy(0, 0, 0, 1, 5), PLACE);
        for (int i = 0; i < 4; i++) {
            int times = i;
            found("NULL, again and again", x -> {
                for (int k = 0; k < times; k++) {
                    x.day(21, 0);
                    x.set(0, 9, 9);
                }
                return x.set(5, 0, 9);
            }, NULL);
        }
    }
}
