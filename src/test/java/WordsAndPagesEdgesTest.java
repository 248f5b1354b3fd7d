/** The boundary cases that promises 6 to 9 name, a method for each sentence. */
public final class WordsAndPagesEdgesTest {
    private static final Class<ArrayIndexOutOfBoundsException> NO_ELEMENT = ArrayIndexOutOfBoundsException.class;
    private static final Class<IllegalArgumentException> WRONG = IllegalArgumentException.class;
    private static final Class<IndexOutOfBoundsException> NO_ROW = IndexOutOfBoundsException.class;
    private static final int LEAST = Integer.MIN_VALUE;
    private static final int MOST = Integer.MAX_VALUE;
    private static final Due due = new Due();

    public static void main(String[] args) {
        aWordIs0OrMore();
        theNumberOnItsSide();
        noSuchSide();
        aSideHas40();
        noneOnTheOtherSide();
        howManyRows();
        noSuchRow();
        theSizeIsKept();
        theOtherSideHasAnotherSize();
        thePages();
        noSuchSideOrPage();
        aSizeBelow1();
        missingByPages();
        howManyAreMissing();
        noneSuchIsMissing();
        due.end();
    }

    private static void aWordIs0OrMore() {
        due.about("promise 6: A word (0 or more); IllegalArgumentException (w)");
        ProofCompare x = new ProofCompare(0, 0);
        for (int side = 0; side < 2; side++) {
            int s = side;
            for (int w : new int[] {LEAST, -40, -1}) {
                due.fails("word " + w, () -> x.word(s, w, 0, 0), WRONG);
            }
        }
        due.is("no word has come", () -> x.words(-1, 0), 0);
        due.is("the least", () -> x.word(0, 0, 0, 0), 0);
        due.is("the largest", () -> x.word(0, MOST, 1, 0), 1);
        due.is("the least is told", () -> x.words(0, 1), 0);
        due.is("the largest is told", () -> x.words(1, 1), MOST);
        x.word(1, MOST, 1, 0);
        x.word(1, 0, 0, 0);
        due.is("both are kept", () -> x.words(-1, 0), 0);
    }

    private static void theNumberOnItsSide() {
        due.about("promise 6: its number on its side (0, ..)");
        ProofCompare x = new ProofCompare(0, 0);
        due.is("the first", () -> x.word(1, 5, 9, 9), 0);
        due.is("as they came, not by place", () -> x.word(1, 5, 0, 0), 1);
        due.is("each side for itself", () -> x.word(0, 5, LEAST, MOST), 0);
        due.is("the same word at the same place", () -> x.word(1, 5, 0, 0), 2);
        due.is("side 0 again", () -> x.word(0, 5, MOST, LEAST), 1);
    }

    private static void noSuchSide() {
        due.about("promise 6: ArrayIndexOutOfBoundsException (side)");
        ProofCompare x = new ProofCompare(0, 0);
        for (int side : new int[] {LEAST, -1, 2, MOST}) {
            due.fails("side " + side, () -> x.word(side, 1, 0, 0), NO_ELEMENT);
            due.fails("side " + side + " and no word", () -> x.word(side, -1, 0, 0), NO_ELEMENT);
        }
        due.is("no word has come", () -> x.words(-1, 0), 0);
    }

    private static void aSideHas40() {
        due.about("promise 6: UnsupportedOperationException when the side has 40");
        for (int side = 0; side < 2; side++) {
            ProofCompare x = new ProofCompare(0, 0);
            int s = side;
            for (int i = 0; i < 40; i++) {
                int n = i;
                due.is("word " + i, () -> x.word(s, 100 + n, n, 0), i);
            }
            due.fails("the 41st", () -> x.word(s, 7, 0, 0), UnsupportedOperationException.class);
            due.fails("one that is there", () -> x.word(s, 100, 0, 0), UnsupportedOperationException.class);
            due.is("40 rows", () -> x.words(-1, 0), 40);
            due.is("the last row", () -> x.words(39, 2 + s), 39);
            due.is("the other side has room", () -> x.word(1 - s, 7, 0, 0), 0);
            due.fails("still no room", () -> x.word(s, MOST, MOST, MOST), UnsupportedOperationException.class);
        }
    }

    private static void noneOnTheOtherSide() {
        due.about("promise 7: 2 its number on side 0, 3 on side 1 (-1: none)");
        ProofCompare x = new ProofCompare(0, 0);
        x.word(0, 1, 0, 0);
        x.word(0, 2, 1, 0);
        x.word(0, 3, 2, 0);
        x.word(0, 4, 3, 0);
        x.word(1, 2, 1, 1);
        x.word(1, 3, 2, 1);
        x.word(1, 1, 3, 1);
        x.word(1, 5, 4, 1);
        int[][] rows = {{2, 1, 0, 2}, {4, 2, 1, 0}, {4, 3, 2, 1}, {1, 4, 3, -1}, {3, 5, -1, 3}};
        due.is("rows", () -> x.words(-1, 0), 5);
        for (int i = 0; i < rows.length; i++) {
            for (int what = 0; what < 4; what++) {
                int n = i;
                int w = what;
                due.is("row " + i + ", " + what, () -> x.words(n, w), rows[i][what]);
            }
        }
    }

    private static void howManyRows() {
        due.about("promise 7: i = -1 (any what): how many rows");
        ProofCompare x = new ProofCompare(0, 0);
        int[] whats = {LEAST, -1, 0, 3, 4, MOST};
        for (int what : whats) {
            due.is("none, what " + what, () -> x.words(-1, what), 0);
        }
        x.word(0, 1, 0, 0);
        for (int what : whats) {
            due.is("one, what " + what, () -> x.words(-1, what), 1);
        }
        x.word(1, 1, 0, 0);
        due.is("none again", () -> x.words(-1, 0), 0);
        for (int i = 1; i < 40; i++) {
            x.word(0, i + 1, i, 0);
            x.word(1, i + 100, i, 0);
        }
        due.is("of full sides", () -> x.words(-1, 0), 78);
    }

    private static void noSuchRow() {
        due.about("promise 7: IndexOutOfBoundsException");
        ProofCompare x = new ProofCompare(0, 0);
        for (int i : new int[] {LEAST, -2, 0, 1, MOST}) {
            due.fails("no row, and none " + i, () -> x.words(i, 0), NO_ROW);
        }
        x.word(0, 1, 0, 0);
        x.word(1, 2, 0, 0);
        due.is("the last row", () -> x.words(1, 0), 3);
        for (int i : new int[] {LEAST, -2, 2, 3, 80, MOST}) {
            due.fails("row " + i, () -> x.words(i, 0), NO_ROW);
            due.fails("row " + i + " and no such what", () -> x.words(i, 4), NO_ROW);
        }
        for (int what : new int[] {LEAST, -1, 4, 5, MOST}) {
            due.fails("what " + what, () -> x.words(0, what), NO_ROW);
            due.fails("what " + what + " of the last", () -> x.words(1, what), NO_ROW);
        }
        x.word(1, 1, 0, -1);
        due.is("shifted, and new", () -> x.words(1, 0), 3);
        x.word(0, 2, 0, 1);
        due.is("both shifted", () -> x.words(1, 0), 4);
        due.fails("no third", () -> x.words(2, 0), NO_ROW);
    }

    private static void theSizeIsKept() {
        due.about("promise 8: A page of a side has a size: 1");
        ProofCompare x = new ProofCompare(0, 0);
        due.is("the smallest", () -> x.size(0, 0, 1, 1), 1);
        due.is("the largest", () -> x.size(0, 19, MOST, MOST), 1);
        due.is("another one for the same page", () -> x.size(0, 0, 2, 3), 1);
        due.is("the same on side 1", () -> x.size(1, 0, 2, 3), 1);
        due.is("the largest on side 1", () -> x.size(1, 19, MOST, MOST), 1);
        due.is("none is missing", () -> x.missing(-1), 0);
    }

    private static void theOtherSideHasAnotherSize() {
        due.about("promise 8: 0 when the other side has the page with another one");
        for (int side = 0; side < 2; side++) {
            ProofCompare x = new ProofCompare(0, 0);
            int s = side;
            x.rule(5, 0, false);
            x.size(s, 4, 3, 5);
            due.is("another width", () -> x.size(1 - s, 4, 4, 5), 0);
            due.is("it has it all the same", () -> x.missing(-1), 0);
            due.is("with the other size", () -> x.check(), 1);
            due.is("another height", () -> x.size(1 - s, 4, 3, 4), 0);
            due.is("turned", () -> x.size(1 - s, 4, 5, 3), 0);
            due.is("the first side follows", () -> x.size(s, 4, 5, 3), 1);
            due.is("no other size", () -> x.check(), 0);
            due.is("another page", () -> x.size(1 - s, 5, 9, 9), 1);
        }
    }

    private static void thePages() {
        due.about("PAGES are 0 .. 19, with a width and height on each side, or not there");
        ProofCompare x = new ProofCompare(0, 0);
        for (int page = 0; page < 20; page++) {
            int p = page;
            due.is("not there on side 1", () -> x.size(0, p, p + 1, 20), 1);
        }
        for (int page = 0; page < 20; page++) {
            int p = page;
            due.is("another on side 1", () -> x.size(1, p, p + 2, 20), 0);
            due.is("its own", () -> x.size(1, p, p + 1, 20), 1);
        }
        due.is("all there", () -> x.missing(-1), 0);
    }

    private static void noSuchSideOrPage() {
        due.about("promise 8: ArrayIndexOutOfBoundsException (side, page)");
        ProofCompare x = new ProofCompare(0, 0);
        for (int side : new int[] {LEAST, -1, 2, MOST}) {
            due.fails("side " + side, () -> x.size(side, 0, 1, 1), NO_ELEMENT);
            due.fails("side " + side + ", the last page", () -> x.size(side, 19, 1, 1), NO_ELEMENT);
        }
        for (int page : new int[] {LEAST, -1, 20, 21, MOST}) {
            due.fails("page " + page, () -> x.size(0, page, 1, 1), NO_ELEMENT);
            due.fails("page " + page + " of side 1", () -> x.size(1, page, 1, 1), NO_ELEMENT);
            due.fails("page " + page + " without a size", () -> x.size(1, page, 0, 0), NO_ELEMENT);
        }
        due.is("no page is there", () -> x.missing(-1), 0);
    }

    private static void aSizeBelow1() {
        due.about("promise 8: IllegalArgumentException when w or h is below 1");
        ProofCompare x = new ProofCompare(0, 0);
        for (int side = 0; side < 2; side++) {
            int s = side;
            for (int small : new int[] {LEAST, -1, 0}) {
                due.fails("w " + small, () -> x.size(s, 0, small, 1), WRONG);
                due.fails("h " + small, () -> x.size(s, 0, 1, small), WRONG);
                due.fails("both " + small, () -> x.size(s, 0, small, small), WRONG);
            }
        }
        due.is("no page is there", () -> x.missing(-1), 0);
        due.is("1 by 1", () -> x.size(0, 0, 1, 1), 1);
        due.fails("one that is there", () -> x.size(0, 0, 0, 0), WRONG);
        due.is("it stays there", () -> x.missing(-1), 1);
        due.is("with its size", () -> x.size(1, 0, 1, 1), 1);
    }

    private static void missingByPages() {
        due.about("promise 9: The i-th page that only one side has, by pages: 2 times the page, and the side that"
            + " has it not");
        ProofCompare x = new ProofCompare(0, 0);
        x.size(0, 19, 1, 1);
        x.size(1, 18, 1, 1);
        x.size(1, 0, 1, 1);
        x.size(0, 1, 1, 1);
        x.size(0, 9, 1, 1);
        x.size(1, 9, 2, 2);
        int[] missing = {0, 3, 36, 39};
        for (int i = 0; i < missing.length; i++) {
            int n = i;
            due.is("missing " + i, () -> x.missing(n), missing[i]);
        }
    }

    private static void howManyAreMissing() {
        due.about("promise 9: i = -1: how many");
        ProofCompare x = new ProofCompare(0, 0);
        due.is("none", () -> x.missing(-1), 0);
        for (int page = 0; page < 20; page++) {
            x.size(page % 2, page, 1, 1);
            int p = page;
            due.is("one more", () -> x.missing(-1), p + 1);
        }
        for (int page = 0; page < 20; page++) {
            x.size(1 - page % 2, page, 1, 1);
            int p = page;
            due.is("one less", () -> x.missing(-1), 19 - p);
        }
    }

    private static void noneSuchIsMissing() {
        due.about("promise 9: IndexOutOfBoundsException");
        ProofCompare x = new ProofCompare(0, 0);
        for (int i : new int[] {LEAST, -2, 0, 1, MOST}) {
            due.fails("none is, and none " + i, () -> x.missing(i), NO_ROW);
        }
        for (int page = 0; page < 20; page++) {
            x.size(1, page, 1, 1);
        }
        due.is("the last", () -> x.missing(19), 38);
        for (int i : new int[] {LEAST, -2, 20, 21, MOST}) {
            due.fails("missing " + i, () -> x.missing(i), NO_ROW);
        }
        x.size(0, 0, 5, 5);
        due.is("now the last", () -> x.missing(18), 38);
        due.fails("there were 20", () -> x.missing(19), NO_ROW);
    }
}
