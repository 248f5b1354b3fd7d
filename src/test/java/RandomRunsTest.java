import java.util.Random;

/** Runs of up to 512 calls with chosen and wild arguments, compared with the model; the seeds are fixed. */
public final class RandomRunsTest {
    private static final int RUNS = 120;
    private static final int CALLS = 512;
    private static final int[] WILD = {Integer.MIN_VALUE, -2, -1, 20, 32, 40, 255, 256, Integer.MAX_VALUE};
    private static final Due due = new Due();

    private final Random random;
    private final int width;
    private final int height;
    private final int values;
    private final ProofCompare real;
    private final Model model;
    private int calls;

    private RandomRunsTest(int seed) {
        random = new Random(seed);
        width = seed % 10 == 0 ? 40 : random.nextInt(14) - 1;
        height = seed % 10 == 5 ? 40 : random.nextInt(14) - 1;
        values = 1 + random.nextInt(12);
        real = new ProofCompare(width, height);
        model = new Model(width, height);
    }

    public static void main(String[] args) {
        for (int seed = 0; seed < RUNS; seed++) {
            RandomRunsTest run = new RandomRunsTest(seed);
            int first = run.random.nextInt(12);
            int kinds = 1 + run.random.nextInt(12);
            // A step makes one call or two, and what an object answers after its 512th is free.
            while (run.calls <= CALLS - 2) {
                // Few kinds of calls in a run let it come far in what they fill.
                run.call("seed " + seed + ", call " + run.calls, (first + run.random.nextInt(kinds)) % 12);
            }
        }
        due.end();
    }

    /** A number below the bound, or now and then one that no call expects. */
    private int pick(int below) {
        return random.nextInt(40) == 0 ? WILD[random.nextInt(WILD.length)] : random.nextInt(Math.max(1, below));
    }

    private int row(int below) {
        return random.nextInt(6) == 0 ? -1 : pick(below);
    }

    private void same(String call, Due.Call got, String want) {
        calls++;
        due.same(call, Due.outcome(got), want);
    }

    private void call(String name, int kind) {
        if (kind < 4) {
            callSurfaces(name, kind);
        } else if (kind < 8) {
            callWordsAndPages(name, kind);
        } else {
            callRulesAndApprovals(name, kind);
        }
    }

    private void callSurfaces(String name, int kind) {
        int side = pick(2);
        int a = pick(width);
        int b = pick(height);
        int v = random.nextInt(5) == 0 ? random.nextInt() : random.nextInt(3) * 40;
        switch (kind) {
            case 0, 1 -> same(name + ": point", () -> real.point(side, a, b, v), model.point(side, a, b, v));
            case 2 -> {
                int bound = pick(random.nextInt(4) == 0 ? 256 : 3);
                int near = pick(3);
                same(name + ": bound", () -> real.bound(bound, near), model.bound(bound, near));
                same(name + ": differing", () -> real.differing(), model.differing());
            }
            default -> {
                int i = row(6);
                int what = pick(5);
                same(name + ": box", () -> real.box(i, what), model.box(i, what));
            }
        }
    }

    private void callWordsAndPages(String name, int kind) {
        int side = pick(2);
        int a = pick(values);
        int x = pick(5);
        int y = pick(5);
        int i = row(50);
        int what = pick(4);
        int page = pick(20);
        switch (kind) {
            case 4 -> same(name + ": word", () -> real.word(side, a, x, y), model.word(side, a, x, y));
            case 5 -> same(name + ": words", () -> real.words(i, what), model.words(i, what));
            case 6 -> same(name + ": size", () -> real.size(side, page, x, y), model.size(side, page, x, y));
            default -> {
                int n = row(12);
                same(name + ": missing", () -> real.missing(n), model.missing(n));
            }
        }
    }

    private void callRulesAndApprovals(String name, int kind) {
        int page = pick(random.nextInt(4) == 0 ? 20 : 2);
        int a = pick(4);
        int who = pick(9);
        boolean fails = random.nextInt(4) == 0;
        int i = row(12);
        int what = pick(3);
        switch (kind) {
            case 8 -> {
                int ruleKind = pick(6);
                same(name + ": rule", () -> real.rule(ruleKind, a, fails), model.rule(ruleKind, a, fails));
                same(name + ": check", () -> real.check(), model.check());
            }
            case 9 -> same(name + ": fault", () -> real.fault(i, what), model.fault(i, what));
            case 10 -> same(name + ": approve", () -> real.approve(page, a, who), model.approve(page, a, who));
            default -> same(name + ": approved", () -> real.approved(page) ? 1 : 0, model.approved(page));
        }
    }
}
