import java.util.LinkedHashMap;
import java.util.Map;
import java.util.function.Supplier;

/** What the section "Terms" says of calls that throw, sentence by sentence. */
public final class TermsThrownTest {
    private static final Section SECTION = new Section("Terms");

    public static void main(String[] args) {
        illegalArgumentFirst();
        tapeNotOfTheForm();
        downBeforeTheRest();
        asTheCallSays();
        changesNothing();
        SECTION.finish();
    }

    private static void illegalArgumentFirst() {
        SECTION.sentence("What is thrown, in this order: IllegalArgumentException: a number out of range ..; "
                + "IllegalStateException: it is DOWN");
        Map<String, Section.Use> wrong = new LinkedHashMap<>();
        wrong.put("fill(256, 1)", x -> x.fill(256, 1));
        wrong.put("fill(1, 0)", x -> x.fill(1, 0));
        wrong.put("end(-1)", x -> x.end(-1));
        wrong.put("append(0, 0, 0)", x -> x.append(0, 0, 0));
        wrong.put("append(1, -1, 0)", x -> x.append(1, -1, 0));
        wrong.put("append(1, 0, 46)", x -> x.append(1, 0, 46));
        wrong.put("retire(24)", x -> x.retire(24));
        wrong.put("cut(-1, 0)", x -> x.cut(-1, 0));
        wrong.put("record(0, 5)", x -> x.record(0, 5));
        wrong.put("count(5)", x -> x.count(5));
        wrong.forEach((name, call) -> {
            SECTION.refuses(name + " when down", States::down, call, Section.ILLEGAL_ARGUMENT);
            SECTION.refuses(name + " when not", States::busy, call, Section.ILLEGAL_ARGUMENT);
        });
    }

    private static void tapeNotOfTheForm() {
        SECTION.sentence("or a TAPE that is not of the form told");
        SECTION.refuses("append of a key that is not there, when down", States::down, x -> x.append(1, 0, 1),
                Section.ILLEGAL_ARGUMENT);
        SECTION.refuses("append of a key that is not there", Subject::new, x -> x.append(1, 0, 1),
                Section.ILLEGAL_ARGUMENT);
        SECTION.refuses("end behind the tape, when down", States::down, x -> x.end(1), Section.ILLEGAL_ARGUMENT);
        SECTION.refuses("a tape that is too long, and no block is left", TermsThrownTest::closedWithLongTape,
                x -> x.append(1, 0, 0), Section.ILLEGAL_ARGUMENT);
        SECTION.refusesBut("one that is not", TermsThrownTest::closedWithLongTape, x -> x.append(1, 0, 1),
                Section.OUT_OF_BOUNDS, x -> x.end(0));
    }

    private static Subject closedWithLongTape() {
        Subject x = States.begun(24);
        x.lay(5, 1001);
        return x;
    }

    private static void downBeforeTheRest() {
        SECTION.sentence("IllegalStateException: it is DOWN; then as the call says");
        SECTION.refuses("retire of none", States::downAtOnce, x -> x.retire(0), Section.ILLEGAL_STATE);
        SECTION.refuses("record of none", States::downAtOnce, x -> x.record(0, 0), Section.ILLEGAL_STATE);
        SECTION.refuses("word of none", States::downAtOnce, x -> x.word(0, 0), Section.ILLEGAL_STATE);
        SECTION.refuses("append with 24 blocks", TermsThrownTest::fullAndDown, x -> x.append(1, 0, 0),
                Section.ILLEGAL_STATE);
        SECTION.refuses("retire of none when not down", Subject::new, x -> x.retire(0), Section.NO_SUCH_ELEMENT);
        SECTION.refuses("append with 24 blocks when not down", () -> States.begun(24), x -> x.append(1, 0, 0),
                Section.OUT_OF_BOUNDS);
    }

    /** The power failed in the record that would have filled the last of 24 blocks. */
    private static Subject fullAndDown() {
        Subject x = States.almostFull();
        x.cut(0, 0);
        Check.outcome(() -> x.put(24, Subject.HALF));
        return x;
    }

    private static void asTheCallSays() {
        SECTION.sentence("IllegalArgumentException: a number out of range ..; then as the call says");
        SECTION.refuses("fill: out of range, and the tape is full", () -> States.busy(1060), x -> x.fill(256, 1),
                Section.ILLEGAL_ARGUMENT);
        SECTION.refuses("fill: in range, and the tape is full", () -> States.busy(1060), x -> x.fill(255, 1),
                Section.OUT_OF_BOUNDS);
        SECTION.refuses("append: out of range, and no block is left", States::closed, x -> x.append(16, 0, 0),
                Section.ILLEGAL_ARGUMENT);
        SECTION.refusesBut("append: in range, and no block is left", States::closed, x -> x.append(15, 0, 0),
                Section.OUT_OF_BOUNDS, x -> x.end(0));
        SECTION.refuses("retire: out of range, and there is none", Subject::new, x -> x.retire(24),
                Section.ILLEGAL_ARGUMENT);
        SECTION.refuses("retire: in range, and there is none", Subject::new, x -> x.retire(23),
                Section.NO_SUCH_ELEMENT);
        SECTION.refuses("record: out of range, and there is none", Subject::new, x -> x.record(0, 5),
                Section.ILLEGAL_ARGUMENT);
        SECTION.refuses("record: in range, and there is none", Subject::new, x -> x.record(0, 4),
                Section.NO_SUCH_ELEMENT);
        SECTION.refuses("word: no record, and no byte", Subject::new, x -> x.word(0, -1), Section.NO_SUCH_ELEMENT);
        SECTION.refuses("word: a record, and no byte", States::busy, x -> x.word(0, -1), Section.OUT_OF_BOUNDS);
    }

    /** Each kind of refused call in one row: what one of them changed would be seen behind the others, too. */
    private static void changesNothing() {
        SECTION.sentence("A call that throws changes nothing, but as said.");
        Map<String, Supplier<Subject>> states = States.up();
        states.put("almost full", States::almostFull);
        states.forEach((name, state) -> {
            Subject refused = state.get();
            for (int i = 0; i < 3; i++) {
                SECTION.throwsOf(name + ": fill", () -> refused.fill(-1, 1), Section.ILLEGAL_ARGUMENT);
                SECTION.throwsOf(name + ": end", () -> refused.end(1061), Section.ILLEGAL_ARGUMENT);
                SECTION.throwsOf(name + ": append", () -> refused.append(0, 0, 0), Section.ILLEGAL_ARGUMENT);
                SECTION.throwsOf(name + ": retire", () -> refused.retire(24), Section.ILLEGAL_ARGUMENT);
                SECTION.throwsOf(name + ": cut", () -> refused.cut(0, -1), Section.ILLEGAL_ARGUMENT);
                SECTION.throwsOf(name + ": record", () -> refused.record(500, 0), Section.NO_SUCH_ELEMENT);
                SECTION.throwsOf(name + ": word", () -> refused.word(500, 0), Section.NO_SUCH_ELEMENT);
                SECTION.throwsOf(name + ": count", () -> refused.count(5), Section.ILLEGAL_ARGUMENT);
            }
            SECTION.sameState(name + ": behind all of them", refused, state.get());
        });
        Subject down = States.down();
        for (int i = 0; i < 3; i++) {
            SECTION.throwsOf("down: feed", () -> down.feed(1, 2, 3, 4, 5), Section.ILLEGAL_STATE);
            SECTION.throwsOf("down: fill", () -> down.fill(1, 1), Section.ILLEGAL_STATE);
            SECTION.throwsOf("down: end", () -> down.end(0), Section.ILLEGAL_STATE);
            SECTION.throwsOf("down: append", () -> down.append(1, 0, 0), Section.ILLEGAL_STATE);
            SECTION.throwsOf("down: retire", () -> down.retire(0), Section.ILLEGAL_STATE);
            SECTION.throwsOf("down: count", () -> down.count(0), Section.ILLEGAL_STATE);
        }
        SECTION.sameState("down: behind all of them", down, States.down());
    }
}
