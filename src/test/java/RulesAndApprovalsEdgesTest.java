/** The boundary cases that promises 10 to 14 name, and the Terms of rules, a method for each sentence. */
public final class RulesAndApprovalsEdgesTest {
    private static final Class<ArrayIndexOutOfBoundsException> NO_PAGE = ArrayIndexOutOfBoundsException.class;
    private static final Class<IllegalArgumentException> WRONG = IllegalArgumentException.class;
    private static final Class<UnsupportedOperationException> FULL = UnsupportedOperationException.class;
    private static final Class<IndexOutOfBoundsException> NO_FAULT = IndexOutOfBoundsException.class;
    private static final int LEAST = Integer.MIN_VALUE;
    private static final int MOST = Integer.MAX_VALUE;
    private static final Due due = new Due();

    public static void main(String[] args) {
        twelveRulesAtMost();
        theRulesNumber();
        noSuchKindOrBound();
        thereAre12();
        morePlacesDiffer();
        moreWordsAreGone();
        moreWordsAreMovedOrShifted();
        morePagesAreMissing();
        morePagesHaveOtherSizes();
        aBoxHasMorePlaces();
        howManyTheMost();
        aRuleThatFails();
        allRulesInOrder();
        noRules();
        theFieldsOfAFault();
        faultsOfTheLatestCheck();
        noSuchFault();
        someoneApproves();
        olderThanTheLatest();
        theyDidSoAlready();
        zeroComesBefore();
        theLatestEditionAlone();
        noSuchPageToApprove();
        anEditionBelow0();
        theEditionHas6();
        whetherTwoHaveApproved();
        noSuchPageApproved();
        due.end();
    }

    private static void twelveRulesAtMost() {
        due.about("RULES (12 at most)");
        ProofCompare x = new ProofCompare(1, 1);
        for (int i = 0; i < 12; i++) {
            int n = i;
            due.is("rule " + i, () -> x.rule(n % 6, 0, true), i);
        }
        for (int kind = 0; kind < 6; kind++) {
            int k = kind;
            due.fails("a 13th of kind " + kind, () -> x.rule(k, 0, true), FULL);
        }
        due.is("12 faults", () -> x.check(), 12);
    }

    private static void theRulesNumber() {
        due.about("promise 10: A rule, and whether it FAILS: its number");
        ProofCompare x = new ProofCompare(1, 1);
        due.is("the first", () -> x.rule(5, 0, false), 0);
        due.is("one that fails", () -> x.rule(0, MOST, true), 1);
        due.is("the same again", () -> x.rule(0, MOST, true), 2);
        due.is("two fail", () -> x.check(), 2);
    }

    private static void noSuchKindOrBound() {
        due.about("promise 10: IllegalArgumentException when kind is not 0 .. 5, or a is below 0");
        ProofCompare x = new ProofCompare(1, 1);
        for (int kind : new int[] {LEAST, -1, 6, 7, MOST}) {
            due.fails("kind " + kind, () -> x.rule(kind, 0, true), WRONG);
            due.fails("kind " + kind + ", a below 0", () -> x.rule(kind, -1, false), WRONG);
        }
        for (int kind = 0; kind < 6; kind++) {
            int k = kind;
            due.fails("a -1", () -> x.rule(k, -1, true), WRONG);
            due.fails("the least a", () -> x.rule(k, LEAST, false), WRONG);
        }
        due.is("no rule has come", () -> x.check(), 0);
        for (int kind = 0; kind < 6; kind++) {
            int k = kind;
            due.is("a 0", () -> x.rule(k, 0, false), 2 * k);
            due.is("the largest a", () -> x.rule(k, MOST, false), 2 * k + 1);
        }
    }

    private static void thereAre12() {
        due.about("promise 10: UnsupportedOperationException when there are 12");
        ProofCompare x = new ProofCompare(1, 1);
        for (int i = 0; i < 11; i++) {
            x.rule(0, 0, false);
        }
        due.is("the 12th", () -> x.rule(0, 0, true), 11);
        due.fails("a 13th", () -> x.rule(0, 0, true), FULL);
        due.is("it has not come", () -> x.check(), 1);
        due.is("the 12th fails", () -> x.fault(0, 0), 11);
    }

    /** Rules of bounds one more than there are, as many, one less and none: the last two are faults. */
    private static void finds(String what, ProofCompare x, int kind, int many) {
        int first = x.rule(kind, many + 1, false);
        x.rule(kind, many, false);
        x.rule(kind, many - 1, false);
        x.rule(kind, 0, false);
        due.is(what + ": faults", () -> x.check(), 2);
        due.is(what + ": one less than there are", () -> x.fault(0, 0), first + 2);
        due.is(what + ": the kind", () -> x.fault(0, 1), kind);
        due.is(what + ": how many", () -> x.fault(0, 2), many);
        due.is(what + ": bound 0", () -> x.fault(1, 0), first + 3);
        due.is(what + ": how many again", () -> x.fault(1, 2), many);
    }

    private static void findsNothing(ProofCompare x, int kind) {
        x.rule(kind, 0, false);
        due.is("none is not more than 0", () -> x.check(), 0);
        due.fails("no fault", () -> x.fault(0, 0), NO_FAULT);
    }

    private static void morePlacesDiffer() {
        due.about("0 more than a places differ");
        findsNothing(new ProofCompare(4, 4), 0);
        ProofCompare x = new ProofCompare(4, 4);
        x.point(0, 0, 0, 1);
        x.point(1, 3, 3, 1);
        x.point(1, 3, 0, 1);
        finds("three places", x, 0, 3);
    }

    private static void moreWordsAreGone() {
        due.about("2 more than a words are gone");
        ProofCompare none = new ProofCompare(0, 0);
        none.word(0, 1, 0, 0);
        none.word(0, 2, 1, 0);
        none.word(1, 2, 0, 0);
        none.word(1, 1, 1, 0);
        none.word(1, 3, 2, 0);
        findsNothing(none, 2);
        ProofCompare x = new ProofCompare(0, 0);
        for (int i = 0; i < 4; i++) {
            x.word(0, i, i, 0);
            x.word(1, 9 + i, i, 0);
        }
        finds("four gone, four new", x, 2, 4);
        ProofCompare back = new ProofCompare(0, 0);
        back.rule(2, 0, false);
        back.word(0, 1, 0, 0);
        due.is("one gone", () -> back.check(), 1);
        back.word(1, 1, 0, 0);
        due.is("it has come back", () -> back.check(), 0);
    }

    private static void moreWordsAreMovedOrShifted() {
        due.about("3 more than a words are moved or shifted");
        ProofCompare none = new ProofCompare(0, 0);
        none.word(0, 1, 0, 0);
        none.word(1, 2, 0, 0);
        none.word(0, 5, 5, 5);
        none.word(1, 5, 5, 5);
        findsNothing(none, 3);
        ProofCompare x = new ProofCompare(0, 0);
        x.word(0, 1, 0, 0);
        x.word(0, 2, 1, 0);
        x.word(0, 3, 2, 0);
        x.word(1, 2, 0, 0);
        x.word(1, 3, 2, 0);
        x.word(1, 1, 3, 0);
        finds("one moved, one shifted, one kept", x, 3, 2);
    }

    private static void morePagesAreMissing() {
        due.about("4 more than a pages are missing on one side");
        ProofCompare none = new ProofCompare(0, 0);
        none.size(0, 0, 1, 1);
        none.size(1, 0, 2, 2);
        findsNothing(none, 4);
        ProofCompare x = new ProofCompare(0, 0);
        x.size(0, 0, 1, 1);
        x.size(1, 19, 1, 1);
        x.size(0, 7, 1, 1);
        finds("one on side 0, two on side 1", x, 4, 3);
    }

    private static void morePagesHaveOtherSizes() {
        due.about("5 more than a pages have other sizes");
        ProofCompare none = new ProofCompare(0, 0);
        none.size(0, 0, 1, 1);
        none.size(1, 1, 2, 2);
        none.size(0, 2, 3, 3);
        none.size(1, 2, 3, 3);
        findsNothing(none, 5);
        ProofCompare x = new ProofCompare(0, 0);
        for (int page = 0; page < 20; page += 19) {
            x.size(0, page, 1, 2);
            x.size(1, page, 2, 1);
        }
        finds("the first page and the last", x, 5, 2);
    }

    private static void aBoxHasMorePlaces() {
        due.about("1 a box has more than a places in all");
        findsNothing(new ProofCompare(4, 4), 1);
        ProofCompare x = new ProofCompare(9, 9);
        x.point(0, 0, 0, 1);
        x.point(0, 1, 1, 1);
        x.point(0, 2, 1, 1);
        // Three of its places differ; in all it has six.
        finds("3 by 2", x, 1, 6);
        ProofCompare one = new ProofCompare(1, 1);
        one.rule(1, 0, false);
        one.rule(1, 1, false);
        one.point(0, 0, 0, 1);
        due.is("one place is more than 0, not than 1", () -> one.check(), 1);
        due.is("one place", () -> one.fault(0, 2), 1);
        ProofCompare whole = new ProofCompare(32, 32);
        for (int i = 0; i < 32; i++) {
            whole.point(0, i, i, 1);
        }
        finds("the whole surface", whole, 1, 1024);
    }

    private static void howManyTheMost() {
        due.about("1 a box has more than a places in all (how many: the most)");
        ProofCompare x = new ProofCompare(12, 12);
        x.point(0, 0, 0, 1);
        x.point(0, 5, 0, 1);
        x.point(0, 6, 1, 1);
        x.point(0, 7, 0, 1);
        x.point(0, 0, 4, 1);
        x.point(0, 0, 5, 1);
        // Boxes of 1, 6 and 2 places: the most is neither the first, nor the last, nor all together.
        finds("three boxes", x, 1, 6);
        ProofCompare wide = new ProofCompare(12, 12);
        for (int i = 0; i < 5; i++) {
            wide.point(0, i, 0, 1);
        }
        for (int i = 0; i < 3; i++) {
            wide.point(0, 5 + i, 5 + i, 1);
        }
        // Five places differ in the first box, three in the second, which has nine in all.
        finds("the most in all, not the most that differ", wide, 1, 9);
    }

    private static void aRuleThatFails() {
        due.about("promise 11: or fails");
        ProofCompare x = new ProofCompare(2, 2);
        for (int kind = 0; kind < 6; kind++) {
            x.rule(kind, MOST, true);
        }
        x.point(0, 0, 0, 1);
        due.is("each of them, whatever its bound", () -> x.check(), 6);
        for (int i = 0; i < 6; i++) {
            int n = i;
            due.is("the rule", () -> x.fault(n, 0), n);
            due.is("-1 for its kind", () -> x.fault(n, 1), -1);
            due.is("0 found", () -> x.fault(n, 2), 0);
        }
    }

    private static void allRulesInOrder() {
        due.about("promise 11: All rules, in order: each that finds more than its bound, or fails, is a FAULT:"
            + " how many");
        ProofCompare x = new ProofCompare(2, 2);
        x.rule(4, 0, false);
        x.rule(0, 1, false);
        x.rule(2, 0, true);
        x.rule(0, 0, false);
        x.rule(5, 0, false);
        x.rule(1, 0, false);
        due.is("the one that fails", () -> x.check(), 1);
        x.point(0, 0, 0, 1);
        due.is("one place", () -> x.check(), 3);
        x.point(1, 1, 1, 1);
        due.is("two places", () -> x.check(), 4);
        x.size(0, 0, 1, 1);
        due.is("and a missing page", () -> x.check(), 5);
        int[] order = {0, 1, 2, 3, 5};
        for (int i = 0; i < order.length; i++) {
            int n = i;
            due.is("fault " + i, () -> x.fault(n, 0), order[i]);
        }
        due.is("a check changes nothing that the next one finds", () -> x.check(), 5);
    }

    private static void noRules() {
        due.about("promise 11: All rules (there are none)");
        ProofCompare x = new ProofCompare(2, 2);
        x.point(0, 0, 0, 1);
        x.word(0, 1, 0, 0);
        x.size(0, 0, 1, 1);
        due.is("no fault", () -> x.check(), 0);
        due.fails("none to tell", () -> x.fault(0, 0), NO_FAULT);
    }

    private static void theFieldsOfAFault() {
        due.about("promise 12: 0 the rule, 1 its kind, or -1 when it failed, 2 how many it found (0 when it failed)");
        ProofCompare x = new ProofCompare(2, 2);
        x.rule(5, 0, false);
        x.rule(4, 1, false);
        x.rule(4, 1, true);
        x.size(0, 0, 1, 1);
        x.size(0, 1, 1, 1);
        x.check();
        int[][] faults = {{1, 4, 2}, {2, -1, 0}};
        for (int i = 0; i < 2; i++) {
            for (int what = 0; what < 3; what++) {
                int n = i;
                int w = what;
                due.is("fault " + i + ", " + what, () -> x.fault(n, w), faults[i][what]);
            }
        }
    }

    private static void faultsOfTheLatestCheck() {
        due.about("promise 12: Of fault i of the latest check");
        ProofCompare x = new ProofCompare(2, 2);
        x.rule(0, 0, false);
        x.rule(4, 0, false);
        x.point(0, 0, 0, 1);
        x.size(1, 2, 1, 1);
        due.fails("before the first check", () -> x.fault(0, 0), NO_FAULT);
        due.is("two", () -> x.check(), 2);
        due.is("the second", () -> x.fault(1, 1), 4);
        x.size(0, 2, 1, 1);
        x.point(0, 1, 1, 1);
        due.is("told until the next check", () -> x.fault(1, 2), 1);
        due.is("as many as were found then", () -> x.fault(0, 2), 1);
        due.is("one", () -> x.check(), 1);
        due.is("as many as are found now", () -> x.fault(0, 2), 2);
        due.fails("behind a check with fewer", () -> x.fault(1, 0), NO_FAULT);
        x.bound(1, 0);
        due.is("none", () -> x.check(), 0);
        due.fails("behind a check with none", () -> x.fault(0, 0), NO_FAULT);
    }

    private static void noSuchFault() {
        due.about("promise 12: IndexOutOfBoundsException");
        ProofCompare x = new ProofCompare(1, 1);
        for (int i = 0; i < 12; i++) {
            x.rule(0, 0, true);
        }
        for (int i : new int[] {LEAST, -1, 0, 11, 12, MOST}) {
            due.fails("no check, and no fault " + i, () -> x.fault(i, 0), NO_FAULT);
        }
        due.is("twelve", () -> x.check(), 12);
        due.is("the last", () -> x.fault(11, 0), 11);
        for (int i : new int[] {LEAST, -2, -1, 12, 13, MOST}) {
            due.fails("fault " + i, () -> x.fault(i, 0), NO_FAULT);
            due.fails("fault " + i + " and no such what", () -> x.fault(i, 3), NO_FAULT);
        }
        for (int what : new int[] {LEAST, -1, 3, 4, MOST}) {
            due.fails("what " + what, () -> x.fault(0, what), NO_FAULT);
            due.fails("what " + what + " of the last", () -> x.fault(11, what), NO_FAULT);
        }
    }

    private static void approves(String what, ProofCompare x, int edition, int who, int want) {
        due.is(what, () -> x.approve(7, edition, who), want);
    }

    private static void isApproved(String what, ProofCompare x, int want) {
        due.is(what + ": approved", () -> x.approved(7) ? 1 : 0, want);
    }

    private static void someoneApproves() {
        due.about("promise 13: Someone (any number) approves of an edition (0 or more) of a page: 1");
        ProofCompare x = new ProofCompare(0, 0);
        for (int who : new int[] {0, -1, 1, LEAST, MOST}) {
            approves("by " + who, x, 0, who, 1);
            approves("by " + who + " again", x, 0, who, 0);
        }
        approves("the largest edition", x, MOST, 0, 1);
        due.is("the first page", () -> x.approve(0, 0, 0), 1);
        due.is("the last page", () -> x.approve(19, 0, 0), 1);
    }

    private static void olderThanTheLatest() {
        due.about("promise 13: 0 when that is older than the latest one that was approved of");
        ProofCompare x = new ProofCompare(0, 0);
        approves("the first may be any", x, 4, 1, 1);
        approves("one older", x, 3, 2, 0);
        approves("the oldest", x, 0, 2, 0);
        isApproved("an older one counts for nothing", x, 0);
        approves("as old", x, 4, 2, 1);
        approves("one newer", x, 5, 1, 1);
        approves("the one before", x, 4, 3, 0);
        due.is("another page has its own", () -> x.approve(6, 0, 1), 1);
    }

    private static void theyDidSoAlready() {
        due.about("promise 13: 0 when .. they did so already");
        ProofCompare x = new ProofCompare(0, 0);
        approves("once", x, 2, 9, 1);
        approves("twice", x, 2, 9, 0);
        isApproved("one, twice", x, 0);
        due.is("another page", () -> x.approve(8, 2, 9), 1);
        approves("a newer edition", x, 3, 9, 1);
        approves("that one twice", x, 3, 9, 0);
        approves("they did so of the older one", x, 2, 9, 0);
    }

    private static void fill(ProofCompare x, int edition) {
        for (int who = 0; who < 6; who++) {
            approves("number " + who, x, edition, who, 1);
        }
    }

    private static void zeroComesBefore() {
        due.about("promise 13: 0 comes before UnsupportedOperationException");
        ProofCompare x = new ProofCompare(0, 0);
        fill(x, 5);
        for (int who = 0; who < 6; who++) {
            approves("already, of six", x, 5, who, 0);
        }
        approves("older, by another", x, 4, 6, 0);
        approves("older, by one of the six", x, 0, 0, 0);
        due.fails("another", () -> x.approve(7, 5, 6), FULL);
    }

    private static void theLatestEditionAlone() {
        due.about("promise 13: The latest edition alone has approvals");
        ProofCompare x = new ProofCompare(0, 0);
        fill(x, 0);
        isApproved("six", x, 1);
        approves("a new edition", x, 1, 0, 1);
        isApproved("the new one has one", x, 0);
        approves("a second", x, 1, 5, 1);
        isApproved("the new one has two", x, 1);
        approves("a much newer edition", x, MOST, 5, 1);
        isApproved("one again", x, 0);
    }

    private static void noSuchPageToApprove() {
        due.about("promise 13: ArrayIndexOutOfBoundsException");
        ProofCompare x = new ProofCompare(0, 0);
        for (int page : new int[] {LEAST, -1, 20, 21, MOST}) {
            due.fails("page " + page, () -> x.approve(page, 0, 0), NO_PAGE);
            due.fails("page " + page + ", edition -1", () -> x.approve(page, -1, 0), NO_PAGE);
        }
        for (int page = 0; page < 20; page++) {
            int p = page;
            due.is("page " + page, () -> x.approve(p, 0, 0), 1);
        }
    }

    private static void anEditionBelow0() {
        due.about("promise 13: an edition (0 or more); IllegalArgumentException");
        ProofCompare x = new ProofCompare(0, 0);
        for (int edition : new int[] {LEAST, -2, -1}) {
            due.fails("edition " + edition, () -> x.approve(7, edition, 0), WRONG);
        }
        approves("the least", x, 0, 0, 1);
        approves("a newer one", x, 3, 0, 1);
        // It is older than the latest one, too: but it is none at all.
        due.fails("edition -1", () -> x.approve(7, -1, 0), WRONG);
        fill(x, 4);
        due.fails("edition -1 behind a full one", () -> x.approve(7, -1, 9), WRONG);
    }

    private static void theEditionHas6() {
        due.about("promise 13: UnsupportedOperationException when the edition has 6 already");
        ProofCompare x = new ProofCompare(0, 0);
        fill(x, 2);
        due.fails("a seventh", () -> x.approve(7, 2, 6), FULL);
        due.fails("a seventh again", () -> x.approve(7, 2, LEAST), FULL);
        isApproved("still", x, 1);
        due.is("another page has room", () -> x.approve(8, 2, 6), 1);
        approves("a newer edition has room", x, 3, 6, 1);
        for (int who = 0; who < 5; who++) {
            approves("up to six", x, 3, who, 1);
        }
        due.fails("its seventh", () -> x.approve(7, 3, 5), FULL);
    }

    private static void whetherTwoHaveApproved() {
        due.about("promise 14: Whether two have approved of the latest edition of a page");
        ProofCompare x = new ProofCompare(0, 0);
        isApproved("none", x, 0);
        approves("one", x, 1, 1, 1);
        isApproved("one", x, 0);
        approves("the same one", x, 1, 1, 0);
        isApproved("the same one", x, 0);
        approves("two", x, 1, 2, 1);
        isApproved("two", x, 1);
        approves("three", x, 1, 3, 1);
        isApproved("more than two", x, 1);
        due.is("the page before", () -> x.approved(6) ? 1 : 0, 0);
        due.is("the page behind", () -> x.approved(8) ? 1 : 0, 0);
        approves("a new edition", x, 2, 1, 1);
        isApproved("a new edition", x, 0);
        approves("two of it", x, 2, 2, 1);
        isApproved("two of it", x, 1);
    }

    private static void noSuchPageApproved() {
        due.about("promise 14: ArrayIndexOutOfBoundsException");
        ProofCompare x = new ProofCompare(0, 0);
        for (int page : new int[] {LEAST, -1, 20, 21, MOST}) {
            due.fails("page " + page, () -> x.approved(page) ? 1 : 0, NO_PAGE);
        }
        due.is("the first page", () -> x.approved(0) ? 1 : 0, 0);
        due.is("the last page", () -> x.approved(19) ? 1 : 0, 0);
    }
}
