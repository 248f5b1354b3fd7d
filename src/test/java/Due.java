/** Counts the calls whose answer is not the one that is due, and prints each of them. */
final class Due {
    interface Call {
        long answer();
    }

    private int wrong;
    private int sentences;
    private String sentence = "";

    /** What a call did, as a text: its answer, or "throws." and the name of what it threw. */
    static String outcome(Call call) {
        try {
            return Long.toString(call.answer());
        } catch (RuntimeException e) {
            // The class must look before it uses an index: what the machine throws is never due.
            boolean byMachine = e.getMessage() == null || e.getMessage().contains("out of bounds for");
            return (byMachine ? "machine throws." : "throws.") + e.getClass().getSimpleName();
        }
    }

    /** The answers from here on are due by this sentence of the document. */
    void about(String words) {
        sentences++;
        sentence = "\"" + words + "\": ";
    }

    void is(String what, Call call, long want) {
        same(what, outcome(call), Long.toString(want));
    }

    void fails(String what, Call call, Class<? extends RuntimeException> want) {
        same(what, outcome(call), "throws." + want.getSimpleName());
    }

    void same(String what, String got, String want) {
        if (!got.equals(want)) {
            wrong++;
            System.out.println(sentence + what + " answered " + got + ", due is " + want);
        }
    }

    void end() {
        String told = sentences == 0 ? "" : sentences + " sentences of the document: ";
        System.out.println(told + (wrong == 0 ? "all answers are as due" : wrong + " answers are not as due"));
        if (wrong != 0) {
            System.exit(1);
        }
    }
}
