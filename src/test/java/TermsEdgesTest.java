import java.util.Arrays;
import java.util.LinkedHashMap;
import java.util.Map;
import java.util.function.ToLongFunction;

/** The boundary cases that the document's Terms name, a method for each sentence; those of boxes and words too. */
public final class TermsEdgesTest {
    private static final Class<ArrayIndexOutOfBoundsException> NO_ELEMENT = ArrayIndexOutOfBoundsException.class;
    private static final Class<IllegalArgumentException> WRONG = IllegalArgumentException.class;
    private static final Class<UnsupportedOperationException> FULL = UnsupportedOperationException.class;
    private static final int LEAST = Integer.MIN_VALUE;
    private static final int MOST = Integer.MAX_VALUE;
    private static final Due due = new Due();

    public static void main(String[] args) {
        aCallThatThrowsChangesNothing();
        theExceptionNamedFirst();
        theSidesAreTwo();
        aPointIsMetWithinNear();
        aPointIsMetWithinTheBound();
        onePointOrBothAreNotMet();
        placesBelongTogether();
        placesBelongTogetherByOthers();
        boxesThatShareAPlace();
        asLongAsThereAreSuch();
        theOrderOfBoxes();
        theOrderOfWords();
        theLongestRowInBothSides();
        goneWhereNotLess();
        whatIsLeftAtTheEnd();
        movedWithTheFirstNewOneLeft();
        keptOnesAtAnotherPlace();
        theRowsAsTheyWereMet();
        due.end();
    }

    /** Everything is filled here: side 0 has 40 words, there are 12 rules, edition 5 of page 2 has 6 approvals. */
    private static ProofCompare filled() {
        ProofCompare x = new ProofCompare(4, 3);
        x.bound(7, 1);
        x.point(0, 0, 0, 200);
        x.point(1, 3, 2, 100);
        for (int i = 0; i < 40; i++) {
            x.word(0, i, i, 0);
        }
        for (int i = 2; i < 40; i++) {
            x.word(1, i, i < 38 ? i : i + 1, 0);
        }
        x.size(0, 1, 3, 4);
        x.size(1, 1, 4, 3);
        x.size(1, 19, 9, 9);
        for (int i = 0; i < 12; i++) {
            x.rule(i % 6, i / 6, i == 5);
        }
        for (int who = 0; who < 6; who++) {
            x.approve(2, 5, who);
        }
        x.approve(3, 1, 1);
        x.check();
        return x;
    }

    /** All that calls tell of an object; the last of these calls change it, as some things show only then. */
    private static String tellAll(ProofCompare x) {
        StringBuilder told = new StringBuilder();
        for (int i = 0; i < 12; i++) {
            int n = i;
            for (int what = 0; what < 3; what++) {
                int w = what;
                told.append(" fault ").append(Due.outcome(() -> x.fault(n, w)));
            }
        }
        told.append(" differing ").append(x.differing()).append(" boxes ").append(x.box(-1, 0));
        for (int i = 0; i < 5 * x.box(-1, 0); i++) {
            told.append(' ').append(x.box(i / 5, i % 5));
        }
        int rows = x.words(-1, 0);
        told.append(" words");
        for (int i = 0; i < 4 * rows; i++) {
            told.append(' ').append(x.words(i / 4, i % 4));
        }
        int missing = x.missing(-1);
        told.append(" missing");
        for (int i = 0; i < missing; i++) {
            told.append(' ').append(x.missing(i));
        }
        told.append(" check ").append(x.check());
        for (int page = 0; page < 20; page++) {
            told.append(' ').append(x.approved(page));
        }
        return told.append(tellByChanges(x)).toString();
    }

    private static String tellByChanges(ProofCompare x) {
        StringBuilder told = new StringBuilder(" points");
        for (int i = 0; i < 24; i++) {
            told.append(' ').append(x.point(i % 2, i / 2 % 4, i / 8, 0));
        }
        told.append(" bound ").append(x.bound(0, 0));
        told.append(" sizes ").append(x.size(0, 1, 4, 3)).append(x.size(1, 1, 3, 4)).append(x.size(0, 19, 9, 9));
        told.append(" word ").append(Due.outcome(() -> x.word(1, 99, 0, 9)));
        told.append(" rule ").append(Due.outcome(() -> x.rule(0, 0, false)));
        for (int who = 5; who < 8; who++) {
            int w = who;
            told.append(" approve ").append(Due.outcome(() -> x.approve(2, 5, w)));
        }
        told.append(" approve ").append(x.approve(3, 0, 9)).append(x.approve(3, 1, 2)).append(x.approved(3));
        return told.toString();
    }

    private static Map<String, ToLongFunction<ProofCompare>> refusedCalls() {
        Map<String, ToLongFunction<ProofCompare>> calls = new LinkedHashMap<>();
        calls.put("point, side", x -> x.point(2, 1, 1, 9));
        calls.put("point, x", x -> x.point(0, 4, 1, 9));
        calls.put("point, y", x -> x.point(1, 1, -1, 9));
        calls.put("bound, b", x -> x.bound(256, 2));
        calls.put("bound, near", x -> x.bound(1, 3));
        calls.put("box, i", x -> x.box(9, 0));
        calls.put("box, what", x -> x.box(0, 5));
        calls.put("word, side", x -> x.word(-1, 3, 0, 0));
        calls.put("word, w", x -> x.word(1, -1, 0, 0));
        calls.put("word, full", x -> x.word(0, 3, 0, 0));
        calls.put("words, i", x -> x.words(80, 0));
        calls.put("words, what", x -> x.words(0, 4));
        calls.put("size, side", x -> x.size(2, 1, 1, 1));
        calls.put("size, page", x -> x.size(0, 20, 1, 1));
        calls.put("size, w", x -> x.size(0, 19, 0, 7));
        calls.put("size, h", x -> x.size(1, 1, 7, 0));
        calls.put("missing", x -> x.missing(20));
        calls.put("rule, kind", x -> x.rule(6, 0, true));
        calls.put("rule, a", x -> x.rule(0, -1, true));
        calls.put("rule, full", x -> x.rule(0, 0, true));
        calls.put("fault, i", x -> x.fault(12, 0));
        calls.put("fault, what", x -> x.fault(0, 3));
        calls.put("approve, page", x -> x.approve(20, 9, 9));
        calls.put("approve, edition", x -> x.approve(3, -1, 9));
        calls.put("approve, full", x -> x.approve(2, 5, 9));
        calls.put("approved", x -> x.approved(-1) ? 1 : 0);
        return calls;
    }

    private static void aCallThatThrowsChangesNothing() {
        due.about("A call that throws changes nothing");
        String untouched = tellAll(filled());
        ProofCompare all = filled();
        for (Map.Entry<String, ToLongFunction<ProofCompare>> call : refusedCalls().entrySet()) {
            ProofCompare x = filled();
            String first = Due.outcome(() -> call.getValue().applyAsLong(x));
            due.is(call.getKey() + " throws", () -> first.startsWith("throws.") ? 1 : 0, 1);
            due.same(call.getKey() + " throws it again", Due.outcome(() -> call.getValue().applyAsLong(x)), first);
            due.same("behind " + call.getKey(), tellAll(x), untouched);
            due.same(call.getKey() + " behind others", Due.outcome(() -> call.getValue().applyAsLong(all)), first);
        }
        due.same("behind all of them", tellAll(all), untouched);
    }

    private static void theExceptionNamedFirst() {
        due.about("where several exceptions that a call names fit, it is the one that it names first");
        ProofCompare x = filled();
        due.fails("word: side, w", () -> x.word(2, -1, 0, 0), NO_ELEMENT);
        due.fails("word: w, full", () -> x.word(0, -1, 0, 0), WRONG);
        due.fails("size: side, w", () -> x.size(-1, 0, 0, 1), NO_ELEMENT);
        due.fails("size: page, h", () -> x.size(0, 20, 1, 0), NO_ELEMENT);
        due.fails("size: side, page, w, h", () -> x.size(2, -1, LEAST, LEAST), NO_ELEMENT);
        due.fails("rule: kind, full", () -> x.rule(6, 0, true), WRONG);
        due.fails("rule: a, full", () -> x.rule(0, -1, true), WRONG);
        due.fails("approve: page, edition", () -> x.approve(-1, -1, 0), NO_ELEMENT);
        due.fails("approve: page, full elsewhere", () -> x.approve(20, 5, 9), NO_ELEMENT);
        due.fails("approve: edition, full", () -> x.approve(2, -1, 9), WRONG);
    }

    private static void theSidesAreTwo() {
        due.about("THE SIDES are 0 and 1");
        ProofCompare x = new ProofCompare(1, 1);
        for (int side : new int[] {LEAST, -1, 2, MOST}) {
            due.fails("point of side " + side, () -> x.point(side, 0, 0, 1), NO_ELEMENT);
            due.fails("word of side " + side, () -> x.word(side, 1, 0, 0), NO_ELEMENT);
            due.fails("size of side " + side, () -> x.size(side, 0, 1, 1), NO_ELEMENT);
        }
        for (int side = 0; side < 2; side++) {
            int s = side;
            due.is("point of side " + s, () -> x.point(s, 0, 0, 1), 0);
            due.is("word of side " + s, () -> x.word(s, 1, 0, 0), 0);
            due.is("size of side " + s, () -> x.size(s, 0, 1, 1), 1);
        }
    }

    /** How many places differ when side 0 has a point at the middle of 9 by 9, and side 1 one that far away. */
    private static long differingApart(int near, int aside, int down) {
        ProofCompare x = new ProofCompare(9, 9);
        x.bound(0, near);
        x.point(0, 4, 4, 50);
        x.point(1, 4 + aside, 4 + down, 50);
        return x.differing();
    }

    private static void aPointIsMetWithinNear() {
        due.about("within NEAR (that much aside and down, at most)");
        for (int near = 0; near <= 2; near++) {
            for (int aside = -3; aside <= 3; aside++) {
                for (int down = -3; down <= 3; down++) {
                    int n = near;
                    int a = aside;
                    int d = down;
                    boolean met = Math.abs(a) <= n && Math.abs(d) <= n;
                    due.is("near " + n + ", " + a + ", " + d, () -> differingApart(n, a, d), met ? 0 : 2);
                }
            }
        }
    }

    private static void aPointIsMetWithinTheBound() {
        due.about("a point whose byte is not more than BOUND from its own");
        ProofCompare x = new ProofCompare(1, 1);
        int[][] pairs = {{0, 0}, {0, 1}, {100, 130}, {1, 255}, {0, 255}};
        for (int[] pair : pairs) {
            for (int side = 0; side < 2; side++) {
                x.point(side, 0, 0, pair[0]);
                x.point(1 - side, 0, 0, pair[1]);
                int apart = pair[1] - pair[0];
                x.bound(apart, 0);
                due.is(apart + " apart by bound " + apart, () -> x.differing(), 0);
                if (apart > 0) {
                    x.bound(apart - 1, 0);
                    due.is(apart + " apart by bound " + (apart - 1), () -> x.differing(), 1);
                }
            }
        }
    }

    private static void onePointOrBothAreNotMet() {
        due.about("DIFFERS, if the point there of one side, or both, is not met");
        for (int side = 0; side < 2; side++) {
            ProofCompare x = new ProofCompare(3, 1);
            x.bound(0, 1);
            x.point(side, 0, 0, 50);
            due.is("one is not met, and the other is, beside it", () -> x.differing(), 1);
            due.is("there", () -> x.box(0, 2), 0);
            x.point(1 - side, 1, 0, 50);
            due.is("both are met, each beside it", () -> x.differing(), 0);
            x.point(1 - side, 0, 0, 90);
            due.is("the other is not met", () -> x.differing(), 1);
            x.point(1 - side, 1, 0, 0);
            due.is("both are not met", () -> x.differing(), 1);
            due.is("that is one place", () -> x.box(0, 4), 1);
        }
    }

    private static long boxesApart(int near, int aside, int down) {
        ProofCompare x = new ProofCompare(9, 9);
        x.bound(0, near);
        x.point(0, 4, 4, 50);
        x.point(0, 4 + aside, 4 + down, 99);
        return x.box(-1, 0);
    }

    private static void placesBelongTogether() {
        due.about("places that differ belong together when they are NEAR + 1 aside and down, at most");
        for (int near = 0; near <= 2; near++) {
            for (int aside = -4; aside <= 4; aside++) {
                for (int down = -4; down <= 4; down++) {
                    int n = near;
                    int a = aside;
                    int d = down;
                    boolean together = Math.abs(a) <= n + 1 && Math.abs(d) <= n + 1;
                    due.is("near " + n + ", " + a + ", " + d, () -> boxesApart(n, a, d), together ? 1 : 2);
                }
            }
        }
    }

    private static void mark(ProofCompare x, int... places) {
        for (int i = 0; i + 1 < places.length; i += 2) {
            x.point(i / 2 % 2, places[i], places[i + 1], 99);
        }
    }

    private static void areBoxes(String what, ProofCompare x, int[]... boxes) {
        due.is(what + ": how many", () -> x.box(-1, 0), boxes.length);
        for (int i = 0; i < boxes.length; i++) {
            for (int field = 0; field < 5; field++) {
                int n = i;
                int f = field;
                due.is(what + ": box " + i + ", " + field, () -> x.box(n, f), boxes[i][field]);
            }
        }
    }

    private static void placesBelongTogetherByOthers() {
        due.about("or by others that lie between; the box of all that belong together is the least one");
        ProofCompare x = new ProofCompare(32, 32);
        for (int i = 0; i < 32; i++) {
            mark(x, i, i);
        }
        areBoxes("from corner to corner", x, new int[] {0, 0, 31, 31, 32});
        x.point(0, 15, 15, 0);
        areBoxes("without one between", x, new int[] {0, 0, 14, 14, 15}, new int[] {16, 16, 31, 31, 16});
        x.bound(0, 1);
        areBoxes("with near 1 that one is not needed", x, new int[] {0, 0, 31, 31, 31});
        ProofCompare snake = new ProofCompare(5, 5);
        mark(snake, 0, 0, 1, 0, 2, 0, 3, 0, 4, 0, 4, 1, 4, 2, 3, 2, 2, 2, 1, 2, 0, 2, 0, 3, 0, 4, 1, 4, 2, 4);
        areBoxes("there and back", snake, new int[] {0, 0, 4, 4, 15});
    }

    private static void boxesThatShareAPlace() {
        due.about("Boxes that share a place become one (the least box of both)");
        ProofCompare corner = new ProofCompare(8, 8);
        mark(corner, 0, 2, 1, 1, 2, 0, 2, 4, 3, 3, 4, 2);
        areBoxes("the one place (2, 2), where nothing differs", corner, new int[] {0, 0, 4, 4, 6});
        ProofCompare inside = new ProofCompare(9, 9);
        mark(inside, 0, 0, 1, 1, 2, 2, 3, 3, 4, 4, 4, 1);
        areBoxes("one place inside the other", inside, new int[] {0, 0, 4, 4, 6});
        ProofCompare above = new ProofCompare(8, 8);
        mark(above, 0, 0, 1, 1, 2, 2, 3, 3, 4, 2, 5, 1, 6, 0, 3, 0);
        areBoxes("one place in the other's first row", above, new int[] {0, 0, 6, 3, 8});
        ProofCompare below = new ProofCompare(8, 8);
        mark(below, 0, 3, 1, 2, 2, 1, 3, 0, 4, 1, 5, 2, 6, 3, 3, 3);
        areBoxes("one place in the other's last row", below, new int[] {0, 0, 6, 3, 8});
        ProofCompare apart = new ProofCompare(8, 8);
        mark(apart, 0, 2, 1, 1, 2, 0, 3, 5, 4, 4, 5, 3);
        areBoxes("corner at corner is not a place", apart, new int[] {0, 0, 2, 2, 3}, new int[] {3, 3, 5, 5, 3});
        ProofCompare touch = new ProofCompare(8, 8);
        mark(touch, 0, 0, 1, 1, 2, 2, 3, 0, 4, 0, 0, 3, 0, 4);
        areBoxes("edge at edge is not a place", touch, new int[] {0, 0, 2, 2, 3}, new int[] {3, 0, 4, 0, 2},
            new int[] {0, 3, 0, 4, 2});
    }

    private static void asLongAsThereAreSuch() {
        due.about("as long as there are such");
        ProofCompare x = new ProofCompare(14, 14);
        // None but the first two share a place; each other one shares one only with the box of all before it.
        mark(x, 0, 2, 1, 1, 2, 0, 2, 4, 3, 3, 4, 2);
        areBoxes("two", x, new int[] {0, 0, 4, 4, 6});
        mark(x, 4, 0, 5, 0, 6, 0);
        areBoxes("a third", x, new int[] {0, 0, 6, 4, 9});
        mark(x, 6, 4, 6, 5, 6, 6);
        areBoxes("a fourth", x, new int[] {0, 0, 6, 6, 12});
        mark(x, 0, 6, 0, 7);
        areBoxes("a fifth", x, new int[] {0, 0, 6, 7, 14});
        mark(x, 8, 7);
        areBoxes("one that stays apart", x, new int[] {0, 0, 6, 7, 14}, new int[] {8, 7, 8, 7, 1});
    }

    private static void theOrderOfBoxes() {
        due.about("Their order is by top, then left");
        ProofCompare x = new ProofCompare(12, 12);
        mark(x, 9, 0, 8, 1, 7, 2, 4, 0, 3, 1, 2, 2, 11, 4, 0, 5);
        areBoxes("four", x, new int[] {2, 0, 4, 2, 3}, new int[] {7, 0, 9, 2, 3}, new int[] {11, 4, 11, 4, 1},
            new int[] {0, 5, 0, 5, 1});
        ProofCompare joined = new ProofCompare(12, 12);
        // What begins at (0, 3) gets its top only by joining what begins at (7, 0).
        mark(joined, 7, 0, 6, 1, 5, 2, 5, 3, 0, 3, 1, 4, 2, 5, 3, 5, 4, 5, 5, 5, 6, 5, 10, 0, 10, 1);
        areBoxes("joined", joined, new int[] {0, 0, 7, 5, 11}, new int[] {10, 0, 10, 1, 2});
    }

    private static void put(ProofCompare x, int side, int... words) {
        for (int i = 0; i < words.length; i++) {
            x.word(side, words[i], i, 0);
        }
    }

    private static void areRows(String what, ProofCompare x, int[]... rows) {
        due.is(what + ": how many", () -> x.words(-1, 0), rows.length);
        for (int i = 0; i < rows.length; i++) {
            for (int field = 0; field < 4; field++) {
                int n = i;
                int f = field;
                due.is(what + ": row " + i + ", " + field, () -> x.words(n, f), rows[i][field]);
            }
        }
    }

    private static void theOrderOfWords() {
        due.about("In a side they are in order by y, then x, then as they came");
        for (int side = 0; side < 2; side++) {
            ProofCompare x = new ProofCompare(0, 0);
            int[][] places = {{0, 0}, {-1, 0}, {0, -1}, {MOST, -1}, {LEAST, 0}, {0, 0}, {LEAST, MOST}, {MOST, LEAST}};
            for (int i = 0; i < places.length; i++) {
                x.word(side, 50 - i, places[i][0], places[i][1]);
            }
            int[] order = {7, 2, 3, 4, 1, 0, 5, 6};
            for (int i = 0; i < order.length; i++) {
                int n = i;
                int field = 2 + side;
                due.is("side " + side + ", row " + i, () -> x.words(n, field), order[i]);
            }
        }
    }

    private static void isAsTheModelSays(int[] before, int[] after) {
        ProofCompare x = new ProofCompare(0, 0);
        Model model = new Model(0, 0);
        for (int side = 0; side < 2; side++) {
            int[] words = side == 0 ? before : after;
            put(x, side, words);
            for (int i = 0; i < words.length; i++) {
                model.word(side, words[i], i, 0);
            }
        }
        String what = Arrays.toString(before) + " and " + Arrays.toString(after);
        due.same(what, Due.outcome(() -> x.words(-1, 0)), model.words(-1, 0));
        int rows = Math.min(100, x.words(-1, 0));
        for (int i = 0; i < 4 * rows; i++) {
            int n = i;
            due.same(what, Due.outcome(() -> x.words(n / 4, n % 4)), model.words(n / 4, n % 4));
        }
    }

    /** The n-th row of as many words, each of them 0, 1 or 2. */
    private static int[] nthRow(int n, int length) {
        int[] row = new int[length];
        for (int i = 0, left = n; i < length; i++, left /= 3) {
            row[i] = left % 3;
        }
        return row;
    }

    private static void theLongestRowInBothSides() {
        due.about("let m(a, b) be how many words the longest row has that comes, in order, in both sides");
        ProofCompare once = new ProofCompare(0, 0);
        put(once, 0, 1, 2, 5);
        put(once, 1, 5, 5, 5, 1, 2);
        areRows("one 5 is met once", once, new int[] {3, 5, -1, 1}, new int[] {3, 5, -1, 2}, new int[] {4, 1, 0, 3},
            new int[] {4, 2, 1, 4}, new int[] {2, 5, 2, 0});
        for (int n = 0; n < 81; n++) {
            for (int m = 0; m < 81; m++) {
                isAsTheModelSays(nthRow(n, 4), nthRow(m, 4));
            }
        }
        int[] before = new int[40];
        int[] after = new int[40];
        for (int step = 1; step < 7; step++) {
            for (int i = 0; i < 40; i++) {
                before[i] = i * i * step % 11;
                after[i] = (i + step) * i % 13;
            }
            isAsTheModelSays(before, after);
        }
    }

    private static void goneWhereNotLess() {
        due.about("where m(behind a, b) is not less than m(a, behind b), a is GONE, else b is NEW");
        ProofCompare none = new ProofCompare(0, 0);
        put(none, 0, 1);
        put(none, 1, 2);
        areRows("both 0", none, new int[] {1, 1, 0, -1}, new int[] {3, 2, -1, 0});
        ProofCompare alike = new ProofCompare(0, 0);
        put(alike, 0, 1, 2);
        put(alike, 1, 2, 1);
        areRows("both 1", alike, new int[] {2, 1, 0, 1}, new int[] {4, 2, 1, 0});
        ProofCompare less = new ProofCompare(0, 0);
        put(less, 0, 1, 3, 2);
        put(less, 1, 2, 1, 3);
        areRows("1 and 2", less, new int[] {4, 1, 0, 1}, new int[] {4, 3, 1, 2}, new int[] {2, 2, 2, 0});
        ProofCompare more = new ProofCompare(0, 0);
        put(more, 0, 1, 2, 3);
        put(more, 1, 2, 3, 1);
        areRows("2 and 1", more, new int[] {2, 1, 0, 2}, new int[] {4, 2, 1, 0}, new int[] {4, 3, 2, 1});
    }

    private static void whatIsLeftAtTheEnd() {
        due.about("at the end what is left of side 0 is gone, of side 1 new");
        ProofCompare empty = new ProofCompare(0, 0);
        areRows("nothing on both sides", empty);
        ProofCompare gone = new ProofCompare(0, 0);
        put(gone, 0, 4, 5);
        areRows("side 1 is empty", gone, new int[] {1, 4, 0, -1}, new int[] {1, 5, 1, -1});
        ProofCompare come = new ProofCompare(0, 0);
        put(come, 1, 4, 5);
        areRows("side 0 is empty", come, new int[] {3, 4, -1, 0}, new int[] {3, 5, -1, 1});
        put(come, 0, 4);
        areRows("left of side 1 behind a kept one", come, new int[] {3, 5, -1, 1});
        put(gone, 1, 4);
        areRows("left of side 0 behind a kept one", gone, new int[] {1, 5, 1, -1});
        ProofCompare full = new ProofCompare(0, 0);
        for (int i = 0; i < 40; i++) {
            full.word(0, i, i, 0);
            full.word(1, 40 + i, i, 0);
        }
        for (int i = 0; i < 40; i++) {
            int n = i;
            due.is("gone " + i, () -> full.words(n, 2), i);
            due.is("new " + i, () -> full.words(40 + n, 3), i);
        }
        due.is("both sides full", () -> full.words(-1, 0), 80);
        ProofCompare turned = new ProofCompare(0, 0);
        for (int i = 0; i < 40; i++) {
            turned.word(0, i < 38 ? i + 2 : 39 - i, i, 0);
            turned.word(1, i, i, 0);
        }
        due.is("two left of side 0 behind a full side 1, and shifted ones", () -> turned.words(-1, 0), 40);
        due.is("the first left was new elsewhere", () -> turned.words(38, 3), 1);
        due.is("the second left was new elsewhere", () -> turned.words(39, 3), 0);
    }

    private static void movedWithTheFirstNewOneLeft() {
        due.about("each gone one, in order, with the first new one of the same word that is left, is MOVED (2)"
            + " instead");
        ProofCompare gone = new ProofCompare(0, 0);
        put(gone, 0, 5, 5, 5, 1, 2, 3);
        put(gone, 1, 1, 2, 3, 5, 5);
        due.is("the first", () -> gone.words(0, 3), 3);
        due.is("the second", () -> gone.words(1, 3), 4);
        due.is("none is left for the third", () -> gone.words(2, 3), -1);
        due.is("it is gone", () -> gone.words(2, 0), 1);
        due.is("three of six are shifted", () -> gone.words(-1, 0), 6);
        ProofCompare come = new ProofCompare(0, 0);
        put(come, 0, 5, 1, 2, 3);
        put(come, 1, 1, 2, 3, 5, 6, 5);
        areRows("a new one is left", come, new int[] {2, 5, 0, 3}, new int[] {4, 1, 1, 0}, new int[] {4, 2, 2, 1},
            new int[] {4, 3, 3, 2}, new int[] {3, 6, -1, 4}, new int[] {3, 5, -1, 5});
        ProofCompare kept = new ProofCompare(0, 0);
        put(kept, 0, 5, 5);
        put(kept, 1, 5);
        areRows("a kept one is not a new one", kept, new int[] {1, 5, 1, -1});
    }

    private static void keptOnesAtAnotherPlace() {
        due.about("Kept ones at another place are SHIFTED (4)");
        int[][] places = {{3, 3, 0}, {4, 3, 1}, {2, 3, 1}, {3, 4, 1}, {3, 2, 1}, {LEAST, MOST, 1}};
        for (int[] place : places) {
            ProofCompare x = new ProofCompare(0, 0);
            x.word(0, 8, 3, 3);
            x.word(1, 8, place[0], place[1]);
            due.is("at " + place[0] + ", " + place[1], () -> x.words(-1, 0), place[2]);
            if (place[2] == 1) {
                areRows("shifted", x, new int[] {4, 8, 0, 0});
            }
        }
    }

    private static void theRowsAsTheyWereMet() {
        due.about("in the order in which they were met: gone (1), moved (where it was gone), new (3), shifted;"
            + " others are not told");
        ProofCompare x = new ProofCompare(0, 0);
        put(x, 0, 7, 1, 2, 9, 3);
        put(x, 1, 6, 1, 8, 2, 3, 7);
        areRows("one of each kind", x, new int[] {2, 7, 0, 5}, new int[] {3, 6, -1, 0}, new int[] {3, 8, -1, 2},
            new int[] {4, 2, 2, 3}, new int[] {1, 9, 3, -1});
    }
}
