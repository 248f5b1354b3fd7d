/** The boundary cases that promises 1 to 5 name, a method for each sentence. */
public final class SurfacesEdgesTest {
    private static final Class<ArrayIndexOutOfBoundsException> NO_POINT = ArrayIndexOutOfBoundsException.class;
    private static final Class<IndexOutOfBoundsException> NO_BOX = IndexOutOfBoundsException.class;
    private static final Class<IllegalArgumentException> NO_BOUND = IllegalArgumentException.class;
    private static final int LEAST = Integer.MIN_VALUE;
    private static final int MOST = Integer.MAX_VALUE;
    private static final Due due = new Due();

    public static void main(String[] args) {
        surfacesOfBytes0();
        nothingElseYet();
        boundAndNearAre0();
        widthAndHeightAreCut();
        aSurfaceWithoutPoints();
        theLowestEightBits();
        whatThePointWas();
        noSuchSideOrPoint();
        theBoundsRange();
        nearsRange();
        tenTimesTheBoundAndNear();
        howManyPlacesDiffer();
        theFieldsOfABox();
        howManyBoxes();
        noSuchBox();
        due.end();
    }

    private static void surfacesOfBytes0() {
        due.about("promise 1: Surfaces of bytes 0");
        ProofCompare x = new ProofCompare(15, 16);
        for (int i = 0; i < 480; i++) {
            int n = i;
            due.is("point " + i, () -> x.point(n % 2, n / 2 % 15, n / 30, 0), 0);
        }
        due.is("nothing differs", () -> x.differing(), 0);
    }

    private static void nothingElseYet() {
        due.about("promise 1: no words, pages, rules, approvals");
        ProofCompare x = new ProofCompare(2, 2);
        due.fails("no check, no fault", () -> x.fault(0, 0), IndexOutOfBoundsException.class);
        due.is("no row", () -> x.words(-1, 0), 0);
        due.is("no page is missing", () -> x.missing(-1), 0);
        due.is("no rule is broken", () -> x.check(), 0);
        for (int page = 0; page < 20; page++) {
            int p = page;
            due.is("page " + page + " is approved", () -> x.approved(p) ? 1 : 0, 0);
            due.is("the other side has no page " + page, () -> x.size(p % 2, p, 1, 1), 1);
            due.is("no one approved of page " + page, () -> x.approve(p, 0, 0), 1);
        }
        due.is("the first word", () -> x.word(0, 0, 0, 0), 0);
        due.is("the first word of side 1", () -> x.word(1, 0, 0, 0), 0);
        due.is("the first rule", () -> x.rule(0, 0, true), 0);
    }

    private static void boundAndNearAre0() {
        due.about("promise 1: bound and near are 0");
        ProofCompare x = new ProofCompare(2, 1);
        x.point(0, 0, 0, 1);
        x.point(1, 1, 0, 1);
        due.is("1 apart and 1 aside is too far", () -> x.differing(), 2);
        due.is("what they were", () -> x.bound(1, 2), 0);
    }

    private static void isSurface(int askedWidth, int askedHeight, int width, int height) {
        ProofCompare x = new ProofCompare(askedWidth, askedHeight);
        String asked = askedWidth + " by " + askedHeight;
        if (width > 0 && height > 0) {
            due.is(asked + ": the last point", () -> x.point(0, width - 1, height - 1, 3), 0);
            due.is(asked + ": the last point of side 1", () -> x.point(1, width - 1, height - 1, 4), 0);
            due.is(asked + ": the first point", () -> x.point(0, 0, 0, 3), width * height == 1 ? 3 : 0);
            due.is(asked + ": the last box's right", () -> x.box(x.box(-1, 0) - 1, 2), width - 1);
            due.is(asked + ": the last box's bottom", () -> x.box(x.box(-1, 0) - 1, 3), height - 1);
        }
        due.fails(asked + ": behind the last x", () -> x.point(0, width, 0, 3), NO_POINT);
        due.fails(asked + ": behind the last y", () -> x.point(1, 0, height, 3), NO_POINT);
    }

    private static void widthAndHeightAreCut() {
        due.about("promise 1: width and height are cut to 0 .. 32");
        int[][] cuts = {{LEAST, 0}, {-32, 0}, {-1, 0}, {0, 0}, {1, 1}, {2, 2}, {31, 31}, {32, 32}, {33, 32}, {64, 32},
            {65536, 32}, {MOST, 32}};
        for (int[] cut : cuts) {
            isSurface(cut[0], 5, cut[1], 5);
            isSurface(5, cut[0], 5, cut[1]);
            isSurface(cut[0], cut[0], cut[1], cut[1]);
        }
        isSurface(LEAST, MOST, 0, 32);
        isSurface(MOST, LEAST, 32, 0);
    }

    private static void aSurfaceWithoutPoints() {
        due.about("promise 1: cut to 0 (a surface with no points at all)");
        for (int[] size : new int[][] {{0, 0}, {0, 32}, {32, 0}, {-1, -1}, {LEAST, MOST}}) {
            ProofCompare x = new ProofCompare(size[0], size[1]);
            due.fails("no point", () -> x.point(0, 0, 0, 1), NO_POINT);
            due.is("a bound all the same", () -> x.bound(255, 2), 0);
            due.is("nothing differs", () -> x.differing(), 0);
            due.is("no box", () -> x.box(-1, 0), 0);
            due.fails("no first box", () -> x.box(0, 0), NO_BOX);
            due.is("a rule on places", () -> x.rule(0, 0, false), 0);
            due.is("a rule on boxes", () -> x.rule(1, 0, false), 1);
            due.is("no fault", () -> x.check(), 0);
        }
    }

    private static void theLowestEightBits() {
        due.about("promise 2: gets the lowest eight bits of v");
        int[][] values = {{0, 0}, {1, 1}, {127, 127}, {128, 128}, {254, 254}, {255, 255}, {256, 0}, {257, 1},
            {511, 255}, {512, 0}, {65535, 255}, {-1, 255}, {-2, 254}, {-127, 129}, {-128, 128}, {-129, 127},
            {-255, 1}, {-256, 0}, {-257, 255}, {MOST, 255}, {LEAST, 0}, {LEAST + 1, 1}};
        ProofCompare x = new ProofCompare(1, 1);
        for (int[] value : values) {
            x.point(0, 0, 0, value[0]);
            x.point(1, 0, 0, value[1]);
            due.is(value[0] + " is as far as " + value[1], () -> x.differing(), 0);
            due.is(value[0] + " is told", () -> x.point(0, 0, 0, 0), value[1]);
        }
    }

    private static void whatThePointWas() {
        due.about("promise 2: what it was (0 .. 255)");
        ProofCompare x = new ProofCompare(2, 2);
        due.is("new", () -> x.point(1, 1, 0, 255), 0);
        due.is("255, not -1", () -> x.point(1, 1, 0, 128), 255);
        due.is("128, not -128", () -> x.point(1, 1, 0, -1), 128);
        due.is("the same again", () -> x.point(1, 1, 0, -1), 255);
        due.is("the other side", () -> x.point(0, 1, 0, 9), 0);
        due.is("the place turned", () -> x.point(1, 0, 1, 9), 0);
        due.is("the place itself", () -> x.point(1, 1, 0, 9), 255);
    }

    private static void noSuchSideOrPoint() {
        due.about("promise 2: ArrayIndexOutOfBoundsException (side, point)");
        ProofCompare x = new ProofCompare(3, 2);
        for (int side : new int[] {LEAST, -1, 2, MOST}) {
            due.fails("side " + side, () -> x.point(side, 0, 0, 1), NO_POINT);
            due.fails("side " + side + " and no point", () -> x.point(side, 3, 2, 1), NO_POINT);
        }
        for (int side = 0; side < 2; side++) {
            int s = side;
            for (int at : new int[] {LEAST, -1, 3, 32, MOST}) {
                due.fails("x " + at, () -> x.point(s, at, 0, 1), NO_POINT);
                due.fails("y " + at, () -> x.point(s, 0, at, 1), NO_POINT);
            }
            // Counted through the rows, these would be places of the next and of the last row.
            due.fails("x 3 of the first row", () -> x.point(s, 3, 0, 1), NO_POINT);
            due.fails("x -1 of the second row", () -> x.point(s, -1, 1, 1), NO_POINT);
            due.fails("y 2, the width is 3", () -> x.point(s, 0, 2, 1), NO_POINT);
        }
        due.is("no point was set", () -> x.differing(), 0);
    }

    private static void theBoundsRange() {
        due.about("promise 3: The BOUND (0 .. 255); IllegalArgumentException");
        ProofCompare x = new ProofCompare(1, 1);
        x.bound(9, 1);
        for (int b : new int[] {LEAST, -256, -1, 256, 65536, MOST}) {
            for (int near = 0; near <= 2; near++) {
                int n = near;
                due.fails("bound " + b, () -> x.bound(b, n), NO_BOUND);
            }
        }
        due.is("still 9", () -> x.bound(0, 1), 91);
        due.is("the least", () -> x.bound(1, 1), 1);
        due.is("1", () -> x.bound(254, 1), 11);
        due.is("254", () -> x.bound(255, 1), 2541);
        due.is("the largest", () -> x.bound(0, 1), 2551);
    }

    private static void nearsRange() {
        due.about("promise 3: NEAR (0 .. 2); IllegalArgumentException");
        ProofCompare x = new ProofCompare(1, 1);
        x.bound(9, 1);
        for (int near : new int[] {LEAST, -1, 3, 4, MOST}) {
            for (int b : new int[] {0, 255, -1, 256}) {
                due.fails("near " + near, () -> x.bound(b, near), NO_BOUND);
            }
        }
        due.is("still 1", () -> x.bound(9, 0), 91);
        due.is("the least", () -> x.bound(9, 1), 90);
        due.is("1", () -> x.bound(9, 2), 91);
        due.is("the largest", () -> x.bound(9, 2), 92);
    }

    private static void tenTimesTheBoundAndNear() {
        due.about("promise 3: 10 times the bound and near, as they were");
        ProofCompare x = new ProofCompare(0, 0);
        int was = 0;
        for (int b = 0; b <= 255; b += 5) {
            for (int near = 0; near <= 2; near++) {
                int before = was;
                int n = near;
                int bound = b;
                due.is("before " + b + ", " + near, () -> x.bound(bound, n), before);
                was = 10 * b + near;
            }
        }
    }

    private static void howManyPlacesDiffer() {
        due.about("promise 4: How many places DIFFER");
        for (int near = 0; near <= 2; near++) {
            ProofCompare x = new ProofCompare(16, 15);
            x.bound(254, near);
            due.is("none", () -> x.differing(), 0);
            for (int i = 0; i < 240; i++) {
                x.point(i % 2, i % 16, i / 16, 255);
                x.point(1 - i % 2, i % 16, i / 16, 0);
            }
            // With near, the 255 of each side is met by the other side's beside it.
            due.is("all, by near " + near, () -> x.differing(), near == 0 ? 240 : 0);
            x.bound(255, near);
            due.is("none by bound 255", () -> x.differing(), 0);
        }
        ProofCompare all = new ProofCompare(32, 15);
        all.bound(0, 2);
        for (int i = 0; i < 480; i++) {
            all.point(1, i % 32, i / 32, 1);
        }
        due.is("all 480", () -> all.differing(), 480);
        all.point(1, 31, 14, 0);
        // It meets the points of side 0 around it, but those of side 1 around it are still not met.
        due.is("all but the last", () -> all.differing(), 479);
        ProofCompare one = new ProofCompare(1, 1);
        due.is("none of one", () -> one.differing(), 0);
        one.point(0, 0, 0, 1);
        due.is("the one", () -> one.differing(), 1);
    }

    private static void theFieldsOfABox() {
        due.about("promise 5: 0 left, 1 top, 2 right, 3 bottom (the last places in it), 4 how many places in it"
            + " differ");
        ProofCompare x = new ProofCompare(32, 32);
        x.point(0, 0, 0, 1);
        x.point(0, 29, 31, 1);
        x.point(1, 30, 30, 1);
        x.point(0, 31, 31, 1);
        int[][] boxes = {{0, 0, 0, 0, 1}, {29, 30, 31, 31, 3}};
        for (int i = 0; i < 2; i++) {
            for (int what = 0; what < 5; what++) {
                int n = i;
                int w = what;
                due.is("box " + i + ", " + what, () -> x.box(n, w), boxes[i][what]);
            }
        }
    }

    private static void howManyBoxes() {
        due.about("promise 5: i = -1 (any what): how many boxes");
        ProofCompare x = new ProofCompare(32, 32);
        int[] whats = {LEAST, -1, 0, 4, 5, MOST};
        for (int what : whats) {
            due.is("none, what " + what, () -> x.box(-1, what), 0);
        }
        x.point(0, 31, 31, 1);
        for (int what : whats) {
            due.is("one, what " + what, () -> x.box(-1, what), 1);
        }
        for (int i = 0; i < 256; i++) {
            x.point(0, i % 16 * 2, i / 16 * 2, 1);
        }
        // The one at (31, 31) belongs to the one at (30, 30).
        due.is("as many as there can be", () -> x.box(-1, 0), 256);
        x.point(0, 0, 0, 0);
        due.is("one less", () -> x.box(-1, 0), 255);
        x.bound(1, 0);
        due.is("none again", () -> x.box(-1, 0), 0);
    }

    private static void noSuchBox() {
        due.about("promise 5: IndexOutOfBoundsException");
        ProofCompare x = new ProofCompare(5, 5);
        for (int i : new int[] {LEAST, -2, 0, 1, MOST}) {
            due.fails("no box, and none " + i, () -> x.box(i, 0), NO_BOX);
        }
        x.point(0, 0, 0, 1);
        x.point(0, 4, 4, 1);
        due.is("the last box", () -> x.box(1, 0), 4);
        for (int i : new int[] {LEAST, -2, 2, 3, MOST}) {
            due.fails("box " + i, () -> x.box(i, 0), NO_BOX);
            due.fails("box " + i + " and no such what", () -> x.box(i, 5), NO_BOX);
        }
        for (int what : new int[] {LEAST, -1, 5, 6, MOST}) {
            due.fails("what " + what, () -> x.box(0, what), NO_BOX);
            due.fails("what " + what + " of the last", () -> x.box(1, what), NO_BOX);
        }
        x.point(0, 4, 4, 0);
        due.fails("it was the last box", () -> x.box(1, 0), NO_BOX);
        x.point(0, 0, 0, 0);
        due.fails("it was the only box", () -> x.box(0, 0), NO_BOX);
    }
}
