/** Promises 1 to 5: a new object, point, bound, differing, box. */
public final class SurfacesTest {
    private static final Class<ArrayIndexOutOfBoundsException> NO_POINT = ArrayIndexOutOfBoundsException.class;
    private static final Class<IndexOutOfBoundsException> NO_BOX = IndexOutOfBoundsException.class;
    private static final Class<IllegalArgumentException> NO_BOUND = IllegalArgumentException.class;
    private static final Due due = new Due();

    public static void main(String[] args) {
        aNewObjectIsEmpty();
        aNewObjectCutsItsSize();
        pointsKeepEightBits();
        pointsOutsideAreRefused();
        boundsAnswerWhatTheyWere();
        boundsOutsideAreRefused();
        theBoundDecidesWhatDiffers();
        bytesAreNotSigned();
        nearLooksAsideAndDown();
        onePointUnmetIsEnough();
        nearStopsAtTheEdges();
        placesJoinToBoxes();
        placesJoinFurtherWithNear();
        boxesThatShareAPlaceBecomeOne();
        joinedBoxesJoinOthers();
        boxesThatTouchStayApart();
        boxesAreInOrder();
        manyBoxes();
        wholeSurfaceIsOneBox();
        boxesOutsideAreRefused();
        due.end();
    }

    private static void aNewObjectIsEmpty() {
        ProofCompare x = new ProofCompare(3, 3);
        due.is("new differing", () -> x.differing(), 0);
        due.is("new boxes", () -> x.box(-1, 0), 0);
        due.is("new words", () -> x.words(-1, 0), 0);
        due.is("new missing", () -> x.missing(-1), 0);
        due.is("new check", () -> x.check(), 0);
        due.fails("new fault", () -> x.fault(0, 0), IndexOutOfBoundsException.class);
        for (int page = 0; page < 20; page++) {
            int p = page;
            due.is("new approved " + p, () -> x.approved(p) ? 1 : 0, 0);
        }
        due.is("new point", () -> x.point(0, 2, 2, 0), 0);
        due.is("new point of side 1", () -> x.point(1, 2, 2, 0), 0);
        due.is("new bound", () -> x.bound(0, 0), 0);
    }

    private static void aNewObjectCutsItsSize() {
        ProofCompare large = new ProofCompare(Integer.MAX_VALUE, 33);
        due.is("last point", () -> large.point(0, 31, 31, 1), 0);
        due.fails("x behind 32", () -> large.point(0, 32, 31, 1), NO_POINT);
        due.fails("y behind 32", () -> large.point(0, 31, 32, 1), NO_POINT);
        for (int[] size : new int[][] {{0, 0}, {-1, 4}, {4, -1}, {Integer.MIN_VALUE, Integer.MIN_VALUE}, {0, 5}}) {
            ProofCompare none = new ProofCompare(size[0], size[1]);
            due.fails("no point", () -> none.point(0, 0, 0, 1), NO_POINT);
            due.is("nothing differs", () -> none.differing(), 0);
            due.is("no boxes", () -> none.box(-1, 9), 0);
            due.fails("no box", () -> none.box(0, 0), NO_BOX);
        }
        ProofCompare flat = new ProofCompare(1, 32);
        due.is("flat", () -> flat.point(1, 0, 31, 7), 0);
        due.is("flat differs", () -> flat.differing(), 1);
        due.is("flat box", () -> flat.box(0, 3), 31);
    }

    private static void pointsKeepEightBits() {
        ProofCompare x = new ProofCompare(2, 2);
        due.is("first", () -> x.point(0, 1, 0, 255), 0);
        due.is("255", () -> x.point(0, 1, 0, 256), 255);
        due.is("256", () -> x.point(0, 1, 0, -1), 0);
        due.is("-1", () -> x.point(0, 1, 0, 0x1234), 255);
        due.is("0x1234", () -> x.point(0, 1, 0, Integer.MIN_VALUE), 0x34);
        due.is("least", () -> x.point(0, 1, 0, 0), 0);
        due.is("its neighbour", () -> x.point(0, 0, 1, 5), 0);
        due.is("the other side", () -> x.point(1, 0, 1, 6), 0);
        due.is("the side again", () -> x.point(0, 0, 1, 5), 5);
    }

    private static void pointsOutsideAreRefused() {
        ProofCompare x = new ProofCompare(3, 2);
        int[][] outside = {{-1, 0, 0}, {2, 0, 0}, {0, -1, 0}, {0, 3, 0}, {0, 0, -1}, {0, 0, 2}, {1, 2, 2},
            {Integer.MAX_VALUE, 0, 0}, {0, Integer.MIN_VALUE, 0}, {0, 0, Integer.MAX_VALUE}};
        for (int[] p : outside) {
            due.fails("point outside", () -> x.point(p[0], p[1], p[2], 9), NO_POINT);
        }
        due.is("nothing changed", () -> x.differing(), 0);
    }

    private static void boundsAnswerWhatTheyWere() {
        ProofCompare x = new ProofCompare(1, 1);
        due.is("first", () -> x.bound(255, 2), 0);
        due.is("255, 2", () -> x.bound(7, 1), 2552);
        due.is("7, 1", () -> x.bound(0, 0), 71);
        due.is("0, 0", () -> x.bound(0, 0), 0);
    }

    private static void boundsOutsideAreRefused() {
        ProofCompare x = new ProofCompare(1, 1);
        x.bound(3, 1);
        int[][] outside = {{-1, 0}, {256, 0}, {0, -1}, {0, 3}, {Integer.MIN_VALUE, Integer.MAX_VALUE}};
        for (int[] b : outside) {
            due.fails("bound outside", () -> x.bound(b[0], b[1]), NO_BOUND);
        }
        due.is("nothing changed", () -> x.bound(3, 1), 31);
    }

    private static void theBoundDecidesWhatDiffers() {
        ProofCompare x = new ProofCompare(2, 1);
        x.point(0, 0, 0, 10);
        x.point(1, 1, 0, 10);
        due.is("bound 0", () -> x.differing(), 2);
        x.bound(9, 0);
        due.is("bound 9", () -> x.differing(), 2);
        x.bound(10, 0);
        due.is("bound 10", () -> x.differing(), 0);
        due.is("no box", () -> x.box(-1, 0), 0);
        x.point(1, 0, 0, 20);
        due.is("from 10 to 20", () -> x.differing(), 0);
        x.point(1, 0, 0, 21);
        due.is("from 10 to 21", () -> x.differing(), 1);
        due.is("at the left", () -> x.box(0, 0), 0);
    }

    private static void bytesAreNotSigned() {
        ProofCompare x = new ProofCompare(1, 1);
        x.point(0, 0, 0, 255);
        x.bound(254, 0);
        due.is("255 is far from 0", () -> x.differing(), 1);
        x.bound(255, 0);
        due.is("255 within 255", () -> x.differing(), 0);
    }

    private static void nearLooksAsideAndDown() {
        ProofCompare x = new ProofCompare(7, 7);
        x.point(0, 2, 2, 200);
        x.point(1, 4, 4, 200);
        x.bound(0, 1);
        due.is("two aside, near 1", () -> x.differing(), 2);
        due.is("one box, for they are NEAR + 1 apart", () -> x.box(-1, 0), 1);
        x.bound(0, 2);
        due.is("two aside, near 2", () -> x.differing(), 0);
        x.point(1, 4, 4, 0);
        x.point(1, 5, 2, 200);
        due.is("three aside, near 2", () -> x.differing(), 2);
        x.point(1, 5, 2, 0);
        x.point(1, 0, 0, 200);
        due.is("two up and left", () -> x.differing(), 0);
    }

    private static void onePointUnmetIsEnough() {
        ProofCompare x = new ProofCompare(3, 3);
        x.bound(0, 1);
        x.point(0, 1, 1, 50);
        due.is("side 0's is not met, though side 1's is", () -> x.differing(), 1);
        x.point(0, 1, 1, 0);
        x.point(1, 1, 1, 50);
        due.is("side 1's is not met, though side 0's is", () -> x.differing(), 1);
    }

    private static void nearStopsAtTheEdges() {
        ProofCompare x = new ProofCompare(4, 4);
        x.bound(0, 2);
        x.point(0, 3, 0, 9);
        x.point(1, 0, 1, 9);
        due.is("no wrapping from row to row", () -> x.differing(), 2);
    }

    private static void isBox(ProofCompare x, int i, int[] want) {
        for (int what = 0; what < 5; what++) {
            int w = what;
            due.is("box " + i + ", " + what, () -> x.box(i, w), want[what]);
        }
    }

    private static void mark(ProofCompare x, int[]... places) {
        for (int[] place : places) {
            x.point(place[0] % 2, place[0], place[1], 99);
        }
    }

    private static void placesJoinToBoxes() {
        ProofCompare x = new ProofCompare(10, 10);
        mark(x, new int[][] {{1, 1}, {2, 2}, {3, 1}, {5, 1}, {7, 8}, {7, 7}});
        due.is("three boxes", () -> x.box(-1, 0), 3);
        isBox(x, 0, new int[] {1, 1, 3, 2, 3});
        isBox(x, 1, new int[] {5, 1, 5, 1, 1});
        isBox(x, 2, new int[] {7, 7, 7, 8, 2});
        x.point(0, 7, 7, 0);
        x.point(1, 7, 7, 0);
        isBox(x, 2, new int[] {7, 8, 7, 8, 1});
    }

    private static void placesJoinFurtherWithNear() {
        ProofCompare x = new ProofCompare(12, 1);
        mark(x, new int[][] {{0, 0}, {2, 0}, {5, 0}, {9, 0}});
        due.is("near 0", () -> x.box(-1, 0), 4);
        x.bound(0, 1);
        due.is("near 1", () -> x.box(-1, 0), 3);
        isBox(x, 0, new int[] {0, 0, 2, 0, 2});
        x.bound(0, 2);
        due.is("near 2", () -> x.box(-1, 0), 2);
        isBox(x, 0, new int[] {0, 0, 5, 0, 3});
        isBox(x, 1, new int[] {9, 0, 9, 0, 1});
    }

    private static void boxesThatShareAPlaceBecomeOne() {
        ProofCompare x = new ProofCompare(8, 8);
        mark(x, new int[][] {{0, 0}, {1, 1}, {2, 2}, {3, 3}, {4, 4}, {3, 1}, {4, 0}});
        due.is("a joined angle", () -> x.box(-1, 0), 1);
        ProofCompare inside = new ProofCompare(8, 8);
        mark(inside, new int[][] {{0, 0}, {1, 1}, {2, 2}, {3, 3}, {4, 4}, {4, 1}});
        due.is("one inside", () -> inside.box(-1, 0), 1);
        isBox(inside, 0, new int[] {0, 0, 4, 4, 6});
    }

    private static void joinedBoxesJoinOthers() {
        ProofCompare x = new ProofCompare(12, 12);
        // The first two share a place, and only the box of both shares one with the third.
        mark(x, new int[][] {{0, 0}, {1, 1}, {2, 2}, {3, 3}});
        mark(x, new int[][] {{3, 0}, {4, 1}, {5, 0}, {6, 1}, {7, 0}});
        mark(x, new int[][] {{6, 3}, {7, 4}, {8, 5}});
        mark(x, new int[][] {{10, 0}});
        due.is("two boxes are left", () -> x.box(-1, 0), 2);
        isBox(x, 0, new int[] {0, 0, 8, 5, 12});
        isBox(x, 1, new int[] {10, 0, 10, 0, 1});
    }

    private static void boxesThatTouchStayApart() {
        ProofCompare x = new ProofCompare(8, 8);
        // The boxes 0 .. 2 and 3 .. 5 lie side by side: they touch, but share no place.
        mark(x, new int[][] {{0, 0}, {1, 1}, {2, 2}, {3, 0}, {4, 0}, {5, 0}});
        due.is("two boxes", () -> x.box(-1, 0), 2);
        isBox(x, 0, new int[] {0, 0, 2, 2, 3});
        isBox(x, 1, new int[] {3, 0, 5, 0, 3});
    }

    private static void boxesAreInOrder() {
        ProofCompare x = new ProofCompare(12, 12);
        mark(x, new int[][] {{4, 0}, {3, 1}, {2, 2}, {9, 0}, {8, 1}, {0, 4}, {11, 3}});
        due.is("four boxes", () -> x.box(-1, 0), 4);
        isBox(x, 0, new int[] {2, 0, 4, 2, 3});
        isBox(x, 1, new int[] {8, 0, 9, 1, 2});
        isBox(x, 2, new int[] {11, 3, 11, 3, 1});
        isBox(x, 3, new int[] {0, 4, 0, 4, 1});
        ProofCompare late = new ProofCompare(12, 12);
        // The left box is whole only when the last place has come to it, long after the others.
        mark(late, new int[][] {{0, 0}, {1, 1}, {2, 2}, {3, 3}, {8, 0}, {10, 0}, {6, 1}, {0, 3}});
        due.is("four more boxes", () -> late.box(-1, 0), 4);
        isBox(late, 0, new int[] {0, 0, 3, 3, 5});
        isBox(late, 1, new int[] {8, 0, 8, 0, 1});
        isBox(late, 2, new int[] {10, 0, 10, 0, 1});
        isBox(late, 3, new int[] {6, 1, 6, 1, 1});
    }

    private static void manyBoxes() {
        ProofCompare x = new ProofCompare(32, 32);
        for (int i = 0; i < 256; i++) {
            x.point(i % 2, i % 16 * 2, i / 16 * 2, 1);
        }
        due.is("all apart", () -> x.box(-1, 0), 256);
        isBox(x, 17, new int[] {2, 2, 2, 2, 1});
        isBox(x, 255, new int[] {30, 30, 30, 30, 1});
        x.bound(0, 1);
        due.is("all of them differ", () -> x.differing(), 256);
        due.is("all together", () -> x.box(-1, 0), 1);
        isBox(x, 0, new int[] {0, 0, 30, 30, 256});
    }

    private static void wholeSurfaceIsOneBox() {
        for (int near = 0; near < 3; near++) {
            ProofCompare x = new ProofCompare(20, 20);
            for (int i = 0; i < 400; i++) {
                x.point(0, i % 20, i / 20, 1);
            }
            x.bound(0, near);
            due.is("all differ", () -> x.differing(), 400);
            isBox(x, 0, new int[] {0, 0, 19, 19, 400});
        }
    }

    private static void boxesOutsideAreRefused() {
        ProofCompare x = new ProofCompare(3, 3);
        x.point(0, 1, 1, 1);
        int[][] outside = {{0, -1}, {0, 5}, {1, 0}, {-2, 0}, {Integer.MIN_VALUE, 0}, {Integer.MAX_VALUE, 4},
            {0, Integer.MAX_VALUE}, {0, Integer.MIN_VALUE}};
        for (int[] b : outside) {
            due.fails("box outside", () -> x.box(b[0], b[1]), NO_BOX);
        }
        due.is("how many, any what", () -> x.box(-1, -7), 1);
        due.is("how many, any what", () -> x.box(-1, Integer.MAX_VALUE), 1);
    }
}
