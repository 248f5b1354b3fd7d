/** Promises 10 to 12: rule, check, fault. */
public final class RulesTest {
    private static final Class<IndexOutOfBoundsException> NO_FAULT = IndexOutOfBoundsException.class;
    private static final Class<IllegalArgumentException> NO_RULE = IllegalArgumentException.class;
    private static final Due due = new Due();

    public static void main(String[] args) {
        rulesAreNumbered();
        rulesOutsideAreRefused();
        thereAreTwelveRules();
        differingPlaces();
        placesOfABox();
        goneWords();
        movedAndShiftedWords();
        missingPages();
        otherSizes();
        aRuleThatFails();
        faultsAreThoseOfTheLatestCheck();
        faultsOutsideAreRefused();
        due.end();
    }

    private static void areFaults(String what, ProofCompare x, int[]... faults) {
        due.is(what + ": how many", () -> x.check(), faults.length);
        for (int i = 0; i < faults.length; i++) {
            for (int field = 0; field < 3; field++) {
                int fault = i;
                int f = field;
                due.is(what + ": fault " + i + ", " + field, () -> x.fault(fault, f), faults[i][field]);
            }
        }
        due.fails(what + ": no more", () -> x.fault(faults.length, 0), NO_FAULT);
    }

    private static void rulesAreNumbered() {
        ProofCompare x = new ProofCompare(1, 1);
        for (int kind = 0; kind < 6; kind++) {
            int k = kind;
            due.is("rule " + kind, () -> x.rule(k, 0, false), kind);
        }
        due.is("the largest bound", () -> x.rule(0, Integer.MAX_VALUE, false), 6);
        areFaults("nothing to find", x);
    }

    private static void rulesOutsideAreRefused() {
        ProofCompare x = new ProofCompare(1, 1);
        int[][] outside = {{-1, 0}, {6, 0}, {0, -1}, {Integer.MAX_VALUE, 1}, {Integer.MIN_VALUE, 1},
            {3, Integer.MIN_VALUE}};
        for (int[] r : outside) {
            due.fails("rule outside", () -> x.rule(r[0], r[1], false), NO_RULE);
            due.fails("rule outside, that fails", () -> x.rule(r[0], r[1], true), NO_RULE);
        }
        due.is("no faults", () -> x.check(), 0);
        due.is("nothing counted", () -> x.rule(5, 0, true), 0);
    }

    private static void thereAreTwelveRules() {
        ProofCompare x = new ProofCompare(1, 1);
        for (int i = 0; i < 12; i++) {
            int n = i;
            due.is("rule", () -> x.rule(n % 6, n, true), i);
        }
        due.fails("a 13th", () -> x.rule(0, 0, false), UnsupportedOperationException.class);
        due.fails("kind before room", () -> x.rule(6, 0, false), NO_RULE);
        due.fails("bound before room", () -> x.rule(0, -1, false), NO_RULE);
        due.is("all fail", () -> x.check(), 12);
        due.is("the last", () -> x.fault(11, 0), 11);
    }

    private static void differingPlaces() {
        ProofCompare x = new ProofCompare(5, 5);
        x.rule(0, 2, false);
        x.point(0, 0, 0, 9);
        x.point(1, 4, 4, 9);
        areFaults("two are not more than two", x);
        x.point(1, 4, 0, 5);
        areFaults("three are", x, new int[] {0, 0, 3});
        x.bound(5, 0);
        areFaults("by the bound in force", x);
    }

    private static void placesOfABox() {
        ProofCompare x = new ProofCompare(8, 8);
        x.rule(1, 9, false);
        x.rule(1, 8, false);
        x.rule(1, 3, false);
        x.rule(1, 2, false);
        x.point(0, 0, 0, 9);
        x.point(0, 1, 1, 9);
        x.point(0, 2, 2, 9);
        x.point(0, 5, 5, 9);
        x.point(0, 6, 5, 9);
        areFaults("all places of the largest box", x, new int[] {1, 1, 9}, new int[] {2, 1, 9}, new int[] {3, 1, 9});
    }

    private static void goneWords() {
        ProofCompare x = new ProofCompare(1, 1);
        x.rule(2, 1, false);
        x.word(0, 1, 0, 0);
        x.word(1, 8, 0, 0);
        x.word(1, 9, 0, 0);
        areFaults("one is gone, two are new", x);
        x.word(0, 2, 1, 0);
        areFaults("two are gone", x, new int[] {0, 2, 2});
        x.word(1, 1, 0, 9);
        x.word(0, 4, 0, 8);
        x.word(1, 4, 0, 8);
        areFaults("one of them has moved", x);
    }

    private static void movedAndShiftedWords() {
        ProofCompare x = new ProofCompare(1, 1);
        x.rule(3, 0, false);
        x.rule(3, 1, false);
        x.word(0, 1, 0, 0);
        x.word(0, 2, 1, 0);
        x.word(0, 5, 2, 0);
        x.word(1, 2, 1, 0);
        x.word(1, 1, 2, 0);
        areFaults("one moved", x, new int[] {0, 3, 1});
        x.word(0, 7, 7, 7);
        x.word(1, 7, 7, 8);
        areFaults("and one shifted", x, new int[] {0, 3, 2}, new int[] {1, 3, 2});
    }

    private static void missingPages() {
        ProofCompare x = new ProofCompare(1, 1);
        x.rule(4, 1, false);
        x.size(0, 3, 1, 1);
        x.size(1, 4, 1, 1);
        areFaults("one on each side", x, new int[] {0, 4, 2});
        x.size(1, 3, 2, 2);
        areFaults("one has come", x);
    }

    private static void otherSizes() {
        ProofCompare x = new ProofCompare(1, 1);
        x.rule(5, 0, false);
        x.size(0, 3, 1, 1);
        x.size(1, 4, 1, 1);
        areFaults("a missing page has no other size", x);
        x.size(1, 3, 1, 2);
        x.size(0, 4, 2, 1);
        areFaults("two pages", x, new int[] {0, 5, 2});
        x.size(1, 3, 1, 1);
        areFaults("one page", x, new int[] {0, 5, 1});
    }

    private static void aRuleThatFails() {
        ProofCompare x = new ProofCompare(2, 2);
        x.rule(0, 0, true);
        x.rule(0, 0, false);
        x.rule(5, Integer.MAX_VALUE, true);
        areFaults("without anything to find", x, new int[] {0, -1, 0}, new int[] {2, -1, 0});
        x.point(0, 0, 0, 1);
        areFaults("in the order of the rules", x, new int[] {0, -1, 0}, new int[] {1, 0, 1}, new int[] {2, -1, 0});
    }

    private static void faultsAreThoseOfTheLatestCheck() {
        ProofCompare x = new ProofCompare(2, 2);
        x.rule(0, 0, false);
        x.point(0, 0, 0, 1);
        due.fails("no check yet", () -> x.fault(0, 0), NO_FAULT);
        due.is("one", () -> x.check(), 1);
        x.point(0, 1, 1, 1);
        x.rule(2, 0, true);
        due.is("as it was found", () -> x.fault(0, 2), 1);
        due.fails("no fault without a check", () -> x.fault(1, 0), NO_FAULT);
        x.point(0, 0, 0, 0);
        x.point(0, 1, 1, 0);
        due.is("still told", () -> x.fault(0, 1), 0);
        areFaults("now", x, new int[] {1, -1, 0});
    }

    private static void faultsOutsideAreRefused() {
        ProofCompare x = new ProofCompare(1, 1);
        x.rule(3, 0, true);
        x.check();
        int[][] outside = {{-1, 0}, {0, -1}, {0, 3}, {1, 0}, {-2, 0}, {Integer.MIN_VALUE, 0}, {Integer.MAX_VALUE, 2},
            {0, Integer.MAX_VALUE}};
        for (int[] f : outside) {
            due.fails("fault outside", () -> x.fault(f[0], f[1]), NO_FAULT);
        }
    }
}
