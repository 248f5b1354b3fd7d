/** Promises 13 and 14: approve, approved. */
public final class ApprovalsTest {
    private static final Due due = new Due();

    public static void main(String[] args) {
        twoMustApprove();
        noOneApprovesTwice();
        theLatestEditionAloneHasApprovals();
        anEditionHasSixApprovals();
        pagesAreApart();
        anyoneMayApprove();
        approvalsOutsideAreRefused();
        due.end();
    }

    private static void approves(ProofCompare x, int page, int edition, int who, int want) {
        due.is("approve " + page + ", " + edition + ", " + who, () -> x.approve(page, edition, who), want);
    }

    private static void isApproved(ProofCompare x, int page, int want) {
        due.is("approved " + page, () -> x.approved(page) ? 1 : 0, want);
    }

    private static void twoMustApprove() {
        ProofCompare x = new ProofCompare(0, 0);
        isApproved(x, 19, 0);
        approves(x, 19, 0, 1, 1);
        isApproved(x, 19, 0);
        approves(x, 19, 0, 2, 1);
        isApproved(x, 19, 1);
        approves(x, 19, 0, 3, 1);
        isApproved(x, 19, 1);
    }

    private static void noOneApprovesTwice() {
        ProofCompare x = new ProofCompare(0, 0);
        approves(x, 0, 4, 7, 1);
        approves(x, 0, 4, 7, 0);
        isApproved(x, 0, 0);
        approves(x, 0, 4, 8, 1);
        approves(x, 0, 4, 7, 0);
        approves(x, 0, 4, 8, 0);
        isApproved(x, 0, 1);
    }

    private static void theLatestEditionAloneHasApprovals() {
        ProofCompare x = new ProofCompare(0, 0);
        approves(x, 0, 4, 7, 1);
        approves(x, 0, 4, 8, 1);
        approves(x, 0, 3, 9, 0);
        approves(x, 0, 0, 9, 0);
        isApproved(x, 0, 1);
        approves(x, 0, 5, 7, 1);
        isApproved(x, 0, 0);
        approves(x, 0, 4, 9, 0);
        isApproved(x, 0, 0);
        approves(x, 0, Integer.MAX_VALUE, 8, 1);
        approves(x, 0, 5, 8, 0);
        isApproved(x, 0, 0);
        approves(x, 0, Integer.MAX_VALUE, 7, 1);
        isApproved(x, 0, 1);
    }

    private static void anEditionHasSixApprovals() {
        ProofCompare x = new ProofCompare(0, 0);
        for (int who = 0; who < 6; who++) {
            approves(x, 2, 9, who, 1);
        }
        due.fails("a seventh", () -> x.approve(2, 9, 6), UnsupportedOperationException.class);
        approves(x, 2, 9, 5, 0);
        approves(x, 2, 8, 6, 0);
        due.fails("edition before room", () -> x.approve(2, -1, 6), IllegalArgumentException.class);
        isApproved(x, 2, 1);
        approves(x, 2, 10, 6, 1);
        isApproved(x, 2, 0);
        for (int who = 0; who < 5; who++) {
            approves(x, 2, 10, who, 1);
        }
        due.fails("a seventh again", () -> x.approve(2, 10, 5), UnsupportedOperationException.class);
    }

    private static void pagesAreApart() {
        ProofCompare x = new ProofCompare(0, 0);
        approves(x, 3, 9, 1, 1);
        approves(x, 4, 1, 1, 1);
        approves(x, 4, 1, 2, 1);
        isApproved(x, 3, 0);
        isApproved(x, 4, 1);
    }

    private static void anyoneMayApprove() {
        ProofCompare x = new ProofCompare(0, 0);
        approves(x, 0, 0, 0, 1);
        approves(x, 0, 0, 0, 0);
        approves(x, 0, 0, -1, 1);
        approves(x, 0, 0, Integer.MIN_VALUE, 1);
        approves(x, 0, 0, Integer.MAX_VALUE, 1);
        approves(x, 0, 0, Integer.MIN_VALUE, 0);
        isApproved(x, 0, 1);
    }

    private static void approvalsOutsideAreRefused() {
        ProofCompare x = new ProofCompare(0, 0);
        for (int page : new int[] {-1, 20, Integer.MIN_VALUE, Integer.MAX_VALUE}) {
            due.fails("page outside", () -> x.approve(page, 0, 1), ArrayIndexOutOfBoundsException.class);
            due.fails("page before edition", () -> x.approve(page, -1, 1), ArrayIndexOutOfBoundsException.class);
            due.fails("page outside", () -> x.approved(page) ? 1 : 0, ArrayIndexOutOfBoundsException.class);
        }
        due.fails("edition below 0", () -> x.approve(0, -1, 1), IllegalArgumentException.class);
        due.fails("least edition", () -> x.approve(0, Integer.MIN_VALUE, 1), IllegalArgumentException.class);
        approves(x, 0, 0, 1, 1);
        isApproved(x, 0, 0);
    }
}
