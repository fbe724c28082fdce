/** Promises 22 and 23: images. */
final class KeptTest {
    private static final Due due = new Due("KeptTest");

    public static void main(String[] args) {
        refused();
        restored();
        twoImages();
        due.end();
    }

    private static void refused() {
        AsManyAsCame x = new AsManyAsCame();
        due.is("image(-1)", x.image(-1), Due.BAD);
        due.is("image(2)", x.image(2), Due.BAD);
        due.is("image(0)", x.image(0), Due.STATE);
        due.is("restore(-1)", x.restore(-1), Due.BAD);
        due.is("restore(2)", x.restore(2), Due.BAD);
        due.is("restore(0)", x.restore(0), Due.STATE);
        Due.read(x, "town list 1 1 1;");
        due.is("image(1)", x.image(1), 1);
        due.is("restore(0) of none", x.restore(0), Due.STATE);
        due.is("restore(1)", x.restore(1), 1);
    }

    private static void restored() {
        AsManyAsCame x = Due.of("town kind 50 3 2;person pilgrim 3 4;person hired 5 6;person born 7 8;");
        x.day(2, 1);
        x.smuggle(2);
        Due.fill(x, 0, 0, 1, 2);
        int[] counts = Due.counts(x);
        int[][] people = new int[6][];
        for (int what = 0; what < 6; what++) {
            people[what] = Due.places(x, what);
        }
        due.is("image", x.image(0), 1);
        x.call(0);
        x.call(2);
        x.born();
        x.day(3, 3);
        x.day(0, 0);
        due.is("restore", x.restore(0), 1);
        due.are("counts", Due.counts(x), counts);
        for (int what = 0; what < 6; what++) {
            due.are("people, " + what, Due.places(x, what), people[what]);
        }
        x.drop(0);
        x.feed(0, 3);
        Due.read(x, "town list 1 1 1;person called 9 9;");
        Due.feed(x, "abc");
        due.is("restore again", x.restore(0), 1);
        due.is("rows are not of it", x.count(0), 0);
        due.is("the tape is not of it", x.count(8), 3);
        due.is("bread", x.count(4), counts[4]);
        due.is("law and pay, too", x.day(1, 1), 2);
        due.is("spent", x.count(5), counts[5] + 3);
        due.is("the image is another than the town", x.restore(0), 1);
        due.are("counts again", java.util.Arrays.copyOf(Due.counts(x), 2), 0, counts[1]);
        due.is("days", x.count(3), counts[3]);
    }

    private static void twoImages() {
        AsManyAsCame x = Due.of("town list 50 3 1;person pilgrim 3 4;");
        x.image(0);
        x.born();
        x.image(1);
        x.born();
        due.is("restore(0)", x.restore(0), 1);
        due.is("one", x.count(1), 1);
        due.is("restore(1)", x.restore(1), 1);
        due.is("two", x.count(1), 2);
        x.day(3, 0);
        due.is("kept anew", x.image(0), 1);
        Due.read(x, "town list 0 0 0;");
        due.is("restore(0) anew", x.restore(0), 1);
        due.is("five", x.count(1), 5);
    }
}
