/** Promises 8 and 9: size, missing. */
public final class PagesTest {
    private static final Class<ArrayIndexOutOfBoundsException> NO_PAGE = ArrayIndexOutOfBoundsException.class;
    private static final Class<IllegalArgumentException> NO_SIZE = IllegalArgumentException.class;
    private static final Due due = new Due();

    public static void main(String[] args) {
        sizesAreCompared();
        sizesOutsideAreRefused();
        missingPagesAreInOrder();
        allPagesMayBeMissing();
        missingOutsideIsRefused();
        due.end();
    }

    private static void sizesAreCompared() {
        ProofCompare x = new ProofCompare(0, 0);
        due.is("alone", () -> x.size(0, 19, 3, 4), 1);
        due.is("alone, again", () -> x.size(0, 19, 5, 4), 1);
        due.is("another width", () -> x.size(1, 19, 3, 4), 0);
        due.is("another height", () -> x.size(1, 19, 5, 3), 0);
        due.is("turned", () -> x.size(1, 19, 4, 5), 0);
        due.is("the same", () -> x.size(1, 19, 5, 4), 1);
        due.is("it was set each time", () -> x.size(0, 19, 5, 5), 0);
        due.is("another page", () -> x.size(1, 18, 1, 1), 1);
        due.is("the largest", () -> x.size(0, 18, Integer.MAX_VALUE, Integer.MAX_VALUE), 0);
        due.is("the smallest", () -> x.size(0, 18, 1, 1), 1);
    }

    private static void sizesOutsideAreRefused() {
        ProofCompare x = new ProofCompare(0, 0);
        int[][] outside = {{-1, 0}, {2, 0}, {0, -1}, {0, 20}, {Integer.MAX_VALUE, 0}, {1, Integer.MIN_VALUE}};
        for (int[] p : outside) {
            due.fails("page outside", () -> x.size(p[0], p[1], 1, 1), NO_PAGE);
            due.fails("page before size", () -> x.size(p[0], p[1], 0, 0), NO_PAGE);
        }
        x.size(0, 0, 2, 2);
        int[][] small = {{0, 1}, {1, 0}, {-1, 1}, {1, -1}, {Integer.MIN_VALUE, Integer.MIN_VALUE}};
        for (int[] s : small) {
            due.fails("size below 1", () -> x.size(0, 0, s[0], s[1]), NO_SIZE);
            due.fails("size below 1", () -> x.size(1, 0, s[0], s[1]), NO_SIZE);
        }
        due.is("one page is missing", () -> x.missing(-1), 1);
        due.is("nothing changed", () -> x.size(1, 0, 2, 2), 1);
    }

    private static void missingPagesAreInOrder() {
        ProofCompare x = new ProofCompare(0, 0);
        x.size(1, 19, 1, 1);
        x.size(0, 7, 1, 1);
        x.size(1, 0, 1, 1);
        x.size(0, 8, 1, 1);
        due.is("how many", () -> x.missing(-1), 4);
        due.is("page 0 on side 0", () -> x.missing(0), 0);
        due.is("page 7 on side 1", () -> x.missing(1), 15);
        due.is("page 8 on side 1", () -> x.missing(2), 17);
        due.is("page 19 on side 0", () -> x.missing(3), 38);
        x.size(1, 7, 2, 2);
        due.is("one has come", () -> x.missing(-1), 3);
        due.is("the next one", () -> x.missing(1), 17);
        due.fails("the last one is gone", () -> x.missing(3), IndexOutOfBoundsException.class);
    }

    private static void allPagesMayBeMissing() {
        ProofCompare x = new ProofCompare(0, 0);
        for (int page = 0; page < 20; page++) {
            x.size(page % 2, page, 1, 1);
        }
        due.is("all", () -> x.missing(-1), 20);
        for (int page = 0; page < 20; page++) {
            int p = page;
            due.is("page " + page, () -> x.missing(p), 2 * p + (1 - p % 2));
        }
        due.fails("no more", () -> x.missing(20), IndexOutOfBoundsException.class);
    }

    private static void missingOutsideIsRefused() {
        ProofCompare x = new ProofCompare(0, 0);
        due.fails("none", () -> x.missing(0), IndexOutOfBoundsException.class);
        x.size(0, 3, 1, 1);
        for (int i : new int[] {-2, 1, Integer.MIN_VALUE, Integer.MAX_VALUE}) {
            due.fails("missing outside", () -> x.missing(i), IndexOutOfBoundsException.class);
        }
    }
}
