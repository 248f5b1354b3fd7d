/** Promises 6 and 7: word, words. */
public final class WordsTest {
    private static final Due due = new Due();

    public static void main(String[] args) {
        wordsAreNumberedOnTheirSide();
        wordsOutsideAreRefused();
        aFullSideRefuses();
        keptWordsAreNotTold();
        oneSideAlone();
        theOrderIsByPlace();
        theLongestRowDecides();
        goneComesFirstWhenBothAreAlike();
        theRowMayHaveGaps();
        movedTakesTheFirstNewOneLeft();
        goneAndNewAtOnePlace();
        eightyRows();
        rowsOutsideAreRefused();
        due.end();
    }

    private static void put(ProofCompare x, int side, int... words) {
        for (int i = 0; i < words.length; i++) {
            x.word(side, words[i], i, 0);
        }
    }

    private static void areRows(String what, ProofCompare x, int[]... rows) {
        due.is(what + ": how many", () -> x.words(-1, 0), rows.length);
        for (int i = 0; i < rows.length; i++) {
            for (int field = 0; field < 4; field++) {
                int row = i;
                int f = field;
                due.is(what + ": row " + i + ", " + field, () -> x.words(row, f), rows[i][field]);
            }
        }
    }

    private static void wordsAreNumberedOnTheirSide() {
        ProofCompare x = new ProofCompare(0, 0);
        due.is("0 of side 0", () -> x.word(0, 0, 5, 5), 0);
        due.is("1 of side 0", () -> x.word(0, Integer.MAX_VALUE, Integer.MIN_VALUE, Integer.MAX_VALUE), 1);
        due.is("0 of side 1", () -> x.word(1, 0, -5, -5), 0);
        due.is("2 of side 0", () -> x.word(0, 0, 5, 5), 2);
        due.is("1 of side 1", () -> x.word(1, 9, 0, 0), 1);
    }

    private static void wordsOutsideAreRefused() {
        ProofCompare x = new ProofCompare(0, 0);
        due.fails("side 2", () -> x.word(2, 1, 0, 0), ArrayIndexOutOfBoundsException.class);
        due.fails("side -1", () -> x.word(-1, 1, 0, 0), ArrayIndexOutOfBoundsException.class);
        due.fails("side before word", () -> x.word(2, -1, 0, 0), ArrayIndexOutOfBoundsException.class);
        due.fails("word -1", () -> x.word(0, -1, 0, 0), IllegalArgumentException.class);
        due.fails("least word", () -> x.word(1, Integer.MIN_VALUE, 0, 0), IllegalArgumentException.class);
        due.is("nothing changed", () -> x.words(-1, 0), 0);
        due.is("nothing counted", () -> x.word(0, 1, 0, 0), 0);
    }

    private static void aFullSideRefuses() {
        ProofCompare x = new ProofCompare(0, 0);
        for (int i = 0; i < 40; i++) {
            int n = i;
            due.is("word " + i, () -> x.word(0, n, n, 0), i);
        }
        due.fails("41st", () -> x.word(0, 1, 0, 0), UnsupportedOperationException.class);
        due.fails("word before room", () -> x.word(0, -1, 0, 0), IllegalArgumentException.class);
        due.fails("side before room", () -> x.word(3, 1, 0, 0), ArrayIndexOutOfBoundsException.class);
        due.is("rows", () -> x.words(-1, 0), 40);
        due.is("the other side has room", () -> x.word(1, 39, 0, 0), 0);
        due.is("kept, elsewhere", () -> x.words(39, 0), 4);
    }

    private static void keptWordsAreNotTold() {
        ProofCompare x = new ProofCompare(0, 0);
        put(x, 0, 4, 5, 6);
        put(x, 1, 4, 5, 6);
        areRows("all kept", x);
        x.word(0, 7, 9, 9);
        x.word(1, 7, 9, 8);
        areRows("shifted down", x, new int[] {4, 7, 3, 3});
    }

    private static void oneSideAlone() {
        ProofCompare x = new ProofCompare(0, 0);
        put(x, 0, 4, 4);
        areRows("gone", x, new int[] {1, 4, 0, -1}, new int[] {1, 4, 1, -1});
        ProofCompare y = new ProofCompare(0, 0);
        put(y, 1, 4, 3);
        areRows("new", y, new int[] {3, 4, -1, 0}, new int[] {3, 3, -1, 1});
    }

    private static void theOrderIsByPlace() {
        ProofCompare x = new ProofCompare(0, 0);
        x.word(0, 1, 5, 5);
        x.word(0, 2, 6, 4);
        x.word(0, 3, 4, 5);
        x.word(0, 4, 5, 5);
        x.word(0, 5, Integer.MAX_VALUE, Integer.MIN_VALUE);
        x.word(0, 6, Integer.MIN_VALUE, Integer.MAX_VALUE);
        x.word(0, 7, 5, 5);
        x.word(0, 8, Integer.MIN_VALUE, 5);
        areRows("in order", x, new int[] {1, 5, 4, -1}, new int[] {1, 2, 1, -1}, new int[] {1, 8, 7, -1},
            new int[] {1, 3, 2, -1}, new int[] {1, 1, 0, -1}, new int[] {1, 4, 3, -1}, new int[] {1, 7, 6, -1},
            new int[] {1, 6, 5, -1});
    }

    private static void theLongestRowDecides() {
        ProofCompare x = new ProofCompare(0, 0);
        put(x, 0, 1, 2, 3);
        put(x, 1, 9, 1, 2, 3);
        areRows("one new in front", x, new int[] {3, 9, -1, 0}, new int[] {4, 1, 0, 1}, new int[] {4, 2, 1, 2},
            new int[] {4, 3, 2, 3});
        ProofCompare y = new ProofCompare(0, 0);
        put(y, 0, 9, 1, 2, 3);
        put(y, 1, 1, 2, 3);
        areRows("one gone in front", y, new int[] {1, 9, 0, -1}, new int[] {4, 1, 1, 0}, new int[] {4, 2, 2, 1},
            new int[] {4, 3, 3, 2});
    }

    private static void goneComesFirstWhenBothAreAlike() {
        ProofCompare x = new ProofCompare(0, 0);
        put(x, 0, 1, 2);
        put(x, 1, 2, 1);
        areRows("swapped", x, new int[] {2, 1, 0, 1}, new int[] {4, 2, 1, 0});
        ProofCompare y = new ProofCompare(0, 0);
        put(y, 0, 1);
        put(y, 1, 2);
        areRows("replaced", y, new int[] {1, 1, 0, -1}, new int[] {3, 2, -1, 0});
    }

    private static void theRowMayHaveGaps() {
        ProofCompare x = new ProofCompare(0, 0);
        // 7 8 2 3 comes in both sides from behind 1 on, with gaps: that is more than 1 2 3.
        put(x, 0, 1, 7, 8, 2, 3);
        put(x, 1, 7, 8, 1, 5, 2, 6, 3);
        areRows("gaps", x, new int[] {2, 1, 0, 2}, new int[] {4, 7, 1, 0}, new int[] {4, 8, 2, 1},
            new int[] {3, 5, -1, 3}, new int[] {4, 2, 3, 4}, new int[] {3, 6, -1, 5}, new int[] {4, 3, 4, 6});
        ProofCompare y = new ProofCompare(0, 0);
        // A row of three with gaps counts for more than a row of two without.
        put(y, 0, 1, 2, 3, 7, 8);
        put(y, 1, 7, 8, 1, 5, 2, 6, 3);
        areRows("longer with gaps", y, new int[] {4, 1, 0, 2}, new int[] {3, 5, -1, 3}, new int[] {4, 2, 1, 4},
            new int[] {3, 6, -1, 5}, new int[] {4, 3, 2, 6}, new int[] {2, 7, 3, 0}, new int[] {2, 8, 4, 1});
    }

    private static void movedTakesTheFirstNewOneLeft() {
        ProofCompare x = new ProofCompare(0, 0);
        put(x, 0, 5, 5, 5, 1, 2, 3, 4);
        put(x, 1, 1, 2, 3, 4, 5, 6, 5);
        areRows("two moved, one gone", x, new int[] {2, 5, 0, 4}, new int[] {2, 5, 1, 6}, new int[] {1, 5, 2, -1},
            new int[] {4, 1, 3, 0}, new int[] {4, 2, 4, 1}, new int[] {4, 3, 5, 2}, new int[] {4, 4, 6, 3},
            new int[] {3, 6, -1, 5});
        ProofCompare y = new ProofCompare(0, 0);
        put(y, 0, 1, 2, 3, 4, 5);
        put(y, 1, 5, 5, 1, 2, 3, 4);
        due.is("moved from behind", () -> y.words(5, 0), 2);
        due.is("to the first", () -> y.words(5, 3), 0);
        due.is("the second stays new", () -> y.words(0, 3), 1);
        due.is("and new", () -> y.words(0, 0), 3);
    }

    private static void goneAndNewAtOnePlace() {
        ProofCompare x = new ProofCompare(0, 0);
        x.word(0, 1, 0, 0);
        x.word(0, 2, 0, 0);
        x.word(1, 2, 0, 0);
        x.word(1, 1, 0, 0);
        areRows("moved, though its place is the same", x, new int[] {2, 1, 0, 1});
    }

    private static void eightyRows() {
        ProofCompare x = new ProofCompare(0, 0);
        for (int i = 0; i < 40; i++) {
            x.word(0, i, i, 0);
            x.word(1, 100 + i, i, 0);
        }
        due.is("all gone and new", () -> x.words(-1, 0), 80);
        due.is("the last gone", () -> x.words(39, 2), 39);
        due.is("the first new", () -> x.words(40, 1), 100);
        due.is("the last row", () -> x.words(79, 3), 39);
    }

    private static void rowsOutsideAreRefused() {
        ProofCompare x = new ProofCompare(0, 0);
        due.fails("none", () -> x.words(0, 0), IndexOutOfBoundsException.class);
        x.word(0, 1, 0, 0);
        int[][] outside = {{0, 4}, {0, -1}, {1, 0}, {-2, 0}, {Integer.MIN_VALUE, 1}, {Integer.MAX_VALUE, 1},
            {0, Integer.MAX_VALUE}, {0, Integer.MIN_VALUE}};
        for (int[] row : outside) {
            due.fails("row outside", () -> x.words(row[0], row[1]), IndexOutOfBoundsException.class);
        }
        due.is("how many, any what", () -> x.words(-1, -9), 1);
        due.is("how many, any what", () -> x.words(-1, 4), 1);
    }
}
