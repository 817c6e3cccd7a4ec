/** Compares answers with those that are due, and ends a test. */
final class Check {
    interface Call {
        long answer();
    }

    private int checks = 0;
    private int wrong = 0;

    /** The answer as a text, or the name of what was thrown. */
    static String outcome(Call call) {
        try {
            return Long.toString(call.answer());
        } catch (RuntimeException e) {
            return e.getClass().getSimpleName();
        }
    }

    void due(String what, Call call, long want) {
        same(what, outcome(call), Long.toString(want));
    }

    void refusedAsDown(String what, Call call) {
        same(what, outcome(call), "IllegalStateException");
    }

    void same(String what, String got, String want) {
        checks++;
        if (!got.equals(want)) {
            wrong++;
            System.out.println(what + " answered " + got + ", due is " + want);
        }
    }

    boolean failed() {
        return wrong != 0;
    }

    String sum() {
        return checks + " checks, " + wrong + " wrong";
    }

    void finish() {
        System.out.println(sum());
        if (failed()) {
            System.exit(1);
        }
    }
}
