/** Promise 1, sentence by sentence. */
public final class Promise01NewObjectTest {
    private static final Section SECTION = new Section("Promise 1");

    public static void main(String[] args) {
        noBlock();
        noCut();
        emptyTape();
        SECTION.finish();
    }

    private static void noBlock() {
        SECTION.sentence("THE LOG has no BLOCK");
        Subject x = new Subject();
        SECTION.answers("records", () -> x.count(0), 0);
        SECTION.answers("blocks", () -> x.count(1), 0);
        SECTION.answers("it is not down", () -> x.count(2), 0);
        SECTION.answers("bytes that were not erased before", () -> x.count(4), 0);
        SECTION.refuses("record(0, 0)", Subject::new, y -> y.record(0, 0), Section.NO_SUCH_ELEMENT);
        SECTION.refuses("word(0, 0)", Subject::new, y -> y.word(0, 0), Section.NO_SUCH_ELEMENT);
        SECTION.refuses("retire(0)", Subject::new, y -> y.retire(0), Section.NO_SUCH_ELEMENT);
        SECTION.answers("mount finds nothing", x::mount, 0);
        SECTION.answers("the first record is the first of a block", () -> x.append(1, 0, 0), 1);
        SECTION.answers("now there is a block", () -> x.count(1), 1);
        SECTION.answers("another new object has none", () -> new Subject().count(1), 0);
    }

    private static void noCut() {
        SECTION.sentence("no CUT waits");
        Subject x = new Subject();
        SECTION.answers("the first cut", () -> x.cut(9, 9), 0);
        SECTION.answers("the second", () -> x.cut(9, 9), 1);
        SECTION.answers("another new object", () -> new Subject().cut(9, 9), 0);
    }

    private static void emptyTape() {
        SECTION.sentence("the TAPE is empty");
        Subject x = new Subject();
        SECTION.answers("its length", () -> x.count(3), 0);
        SECTION.answers("end(0)", () -> x.end(0), 0);
        SECTION.refuses("end(1)", Subject::new, y -> y.end(1), Section.ILLEGAL_ARGUMENT);
        SECTION.answers("one byte comes to it", () -> x.fill(5, 1), 1);
        SECTION.answers("end(1) then", () -> x.end(1), 1);
        SECTION.answers("another new object", () -> new Subject().count(3), 0);
    }
}
