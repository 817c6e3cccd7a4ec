import java.util.List;
import java.util.Map;
import java.util.function.Supplier;

/** A section of the document: its sentences, each with the checks that hold it and a printed line. */
final class Section {
    static final String ILLEGAL_ARGUMENT = "IllegalArgumentException";
    static final String ILLEGAL_STATE = "IllegalStateException";
    static final String OUT_OF_BOUNDS = "IndexOutOfBoundsException";
    static final String NO_SUCH_ELEMENT = "NoSuchElementException";

    static final int MOST = Integer.MAX_VALUE;
    static final int LEAST = Integer.MIN_VALUE;

    interface Use {
        long on(Subject x);
    }

    interface Change {
        void on(Subject x);
    }

    private final String name;
    private String sentence = "";
    private Check check = new Check();
    private boolean failed = false;

    Section(String name) {
        this.name = name;
    }

    /** The checks from here on hold these words. */
    void sentence(String words) {
        endSentence();
        sentence = name + ", \"" + words + "\"";
        check = new Check();
    }

    private void endSentence() {
        if (!sentence.isEmpty()) {
            System.out.println(sentence + ": " + check.sum());
        }
        failed |= check.failed();
    }

    void finish() {
        endSentence();
        if (failed) {
            System.exit(1);
        }
    }

    void answers(String what, Check.Call call, long want) {
        same(what, Check.outcome(call), Long.toString(want));
    }

    void throwsOf(String what, Check.Call call, String thrown) {
        same(what, Check.outcome(call), thrown);
    }

    void same(String what, String got, String want) {
        check.same(sentence + ": " + what, got, want);
    }

    /** The call throws, and nothing has changed: the object goes on as one that was not asked. */
    void refuses(String what, Supplier<Subject> state, Use call, String thrown) {
        refusesBut(what, state, call, thrown, x -> { });
    }

    /** As refuses, but for a change that the document tells; said makes it by other calls. */
    void refusesBut(String what, Supplier<Subject> state, Use call, String thrown, Change said) {
        Subject refused = state.get();
        throwsOf(what, () -> call.on(refused), thrown);
        Subject spared = state.get();
        said.on(spared);
        sameState(what + ", then", refused, spared);
    }

    /** Both go on alike; they are used up by this. */
    void sameState(String what, Subject one, Subject other) {
        sameRows(what, Probe.of(one), Probe.of(other));
    }

    void refusesInAll(String what, Map<String, Supplier<Subject>> states, Use call, String thrown) {
        states.forEach((state, supplier) -> refuses(what + " (" + state + ")", supplier, call, thrown));
    }

    private void sameRows(String what, List<String> got, List<String> want) {
        int rows = Math.max(got.size(), want.size());
        int at = 0;
        while (at < rows - 1 && rowAt(got, at).equals(rowAt(want, at))) {
            at++;
        }
        same(what, rowAt(got, at), rowAt(want, at));
    }

    private static String rowAt(List<String> rows, int at) {
        return at < rows.size() ? rows.get(at) : "nothing";
    }
}
