import java.util.List;
import java.util.function.Supplier;

/** What the section "Terms" says of a CUT, sentence by sentence. */
public final class TermsCutTest {
    private static final Section SECTION = new Section("Terms");

    public static void main(String[] args) {
        parts();
        nthPart();
        bytesDone();
        allButItsLast();
        cutRecordIsNotThere();
        erasedBlockIsNone();
        callThrows();
        doesNotWaitAnyMore();
        isDown();
        allCallsButThree();
        SECTION.finish();
    }

    private static void parts() {
        SECTION.sentence("PARTS are: the erasing of a BLOCK that is to be a new one, its beginning, "
                + "which is written then (6 bytes), and each RECORD");
        for (int n = 0; n <= 3; n++) {
            threePartsInANewBlock(n);
            Subject open = States.open(1);
            open.cut(n, 0);
            SECTION.same("cut(" + n + ", 0) of a record in an open block", Check.outcome(() -> open.append(1, 1, 0)),
                    n == 0 ? Section.ILLEGAL_STATE : "2");
        }
        Subject x = States.open(2);
        x.cut(1, 0);
        x.feed(1, 2, 3, 4, 5);
        x.fill(1, 1);
        x.end(0);
        x.record(0, 0);
        Check.outcome(() -> x.word(0, 0));
        x.count(0);
        x.retire(0);
        Check.outcome(() -> x.append(0, 0, 0));
        SECTION.answers("other calls have none: a record passes", () -> x.append(1, 2, 0), 2);
        SECTION.throwsOf("and the next does not", () -> x.append(1, 3, 0), Section.ILLEGAL_STATE);
        Subject mounted = States.open(1);
        mounted.cut(3, 0);
        mounted.mount();
        SECTION.answers("mount has none", () -> mounted.append(1, 1, 0), 1);
        SECTION.throwsOf("behind three parts it comes", () -> mounted.append(1, 2, 0), Section.ILLEGAL_STATE);
    }

    /** Cut in the first two the new block is not there, in the third it is, without the record. */
    private static void threePartsInANewBlock(int n) {
        String name = "cut(" + n + ", 0) of a record in a new block";
        Subject x = States.begun(1);
        x.cut(n, 0);
        SECTION.same(name, Check.outcome(() -> x.append(1, 1, 0)), n <= 2 ? Section.ILLEGAL_STATE : "1");
        SECTION.answers(name + ": records", x::mount, n <= 2 ? 1 : 2);
        SECTION.answers(name + ": blocks", () -> x.count(1), n <= 1 ? 1 : 2);
    }

    private static void nthPart() {
        SECTION.sentence("the power fails in the n-th PART (from 0) of those that come");
        for (int n = 0; n <= 20; n++) {
            Subject x = States.open(1);
            x.append(1, 1, 0);
            x.cut(n, 0);
            for (int i = 0; i < n; i++) {
                SECTION.answers("n " + n + ": part " + i, () -> x.append(1, 2, 0), i + 3);
            }
            SECTION.throwsOf("n " + n + ": part " + n, () -> x.append(1, 3, 0), Section.ILLEGAL_STATE);
            SECTION.answers("n " + n + ": those before it are there", x::mount, n + 2);
        }
        Subject x = new Subject();
        x.cut(7, 0);
        x.append(1, 0, 0);
        x.mount();
        x.append(1, 1, 0);
        SECTION.answers("over blocks and mounts: part 6", () -> x.append(1, 2, 0), 2);
        SECTION.throwsOf("over blocks and mounts: part 7", () -> x.append(1, 3, 0), Section.ILLEGAL_STATE);
    }

    /** All blocks are begun, the first is retired and about to be taken. */
    private static Subject beforeErasing() {
        Subject x = States.begun(24);
        x.retire(0);
        return x;
    }

    private static void bytesDone() {
        SECTION.sentence("when b bytes of it are done");
        for (int b = 0; b <= 3; b++) {
            Subject x = beforeErasing();
            x.cut(0, b);
            Check.outcome(() -> x.append(1, 100, 0));
            SECTION.answers(b + " bytes of an erasing: is it as it was", x::mount, b == 0 ? 24 : 23);
        }
    }

    private static void allButItsLast() {
        SECTION.sentence("or, if it has not more than b, all but its last one");
        for (int b : new int[] {2046, 2047, 2048, 2049, Section.MOST}) {
            Subject x = beforeErasing();
            x.cut(0, b);
            SECTION.throwsOf("an erasing (2048), b " + b, () -> x.append(1, 100, 0), Section.ILLEGAL_STATE);
            SECTION.answers("an erasing (2048), b " + b + ": the block is not there", x::mount, 23);
            SECTION.answers("an erasing (2048), b " + b + ": blocks", () -> x.count(1), 23);
        }
        for (int b : new int[] {4, 5, 6, 7, 2048, Section.MOST}) {
            Subject x = beforeErasing();
            x.cut(1, b);
            SECTION.throwsOf("a beginning (6), b " + b, () -> x.append(1, 100, 0), Section.ILLEGAL_STATE);
            SECTION.answers("a beginning (6), b " + b + ": the block is not there", x::mount, 23);
            SECTION.answers("a beginning (6), b " + b + ": blocks", () -> x.count(1), 23);
        }
        for (int bytes : new int[] {0, 1, 11, 1000, 1045}) {
            int size = 9 + bytes;
            for (int b : new int[] {size - 2, size - 1, size, size + 1, 2048, Section.MOST}) {
                String name = "a record (" + size + "), b " + b;
                Subject x = States.open(1);
                x.cut(0, b);
                SECTION.throwsOf(name, () -> x.put(1, bytes), Section.ILLEGAL_STATE);
                SECTION.answers(name + ": it is not there", x::mount, 1);
                SECTION.answers(name + ": no byte was written twice", () -> x.count(4), 0);
            }
        }
    }

    private static void cutRecordIsNotThere() {
        SECTION.sentence("A RECORD that was cut is not there");
        for (int b = 0; b <= 40; b++) {
            Subject x = new Subject();
            x.put(1, 20);
            x.put(2, 20);
            x.cut(0, b);
            Check.outcome(() -> x.put(3, 20));
            SECTION.answers("cut at " + b, x::mount, 2);
            SECTION.same("cut at " + b + ": those before it are", x.moments(), "1 2");
            SECTION.answers("cut at " + b + ": the next one", () -> x.put(4, 20), 1);
            x.mount();
            SECTION.same("cut at " + b + ": is behind them", x.moments(), "1 2 4");
        }
    }

    private static void erasedBlockIsNone() {
        SECTION.sentence("a BLOCK that was erased, if only a byte of it, is none of THE LOG "
                + "until its beginning was written wholly");
        int[][] rows = {{0, 0, 24, 24}, {0, 1, 23, 23}, {0, 2, 23, 23}, {0, 5, 23, 23}, {0, 6, 23, 23},
            {0, 2047, 23, 23}, {1, 0, 23, 23}, {1, 1, 23, 23}, {1, 5, 23, 23}, {2, 0, 23, 24}, {2, 8, 23, 24}};
        for (int[] row : rows) {
            String name = "cut(" + row[0] + ", " + row[1] + ")";
            Subject x = beforeErasing();
            x.cut(row[0], row[1]);
            Check.outcome(() -> x.append(1, 100, 0));
            SECTION.answers(name + ": records", x::mount, row[2]);
            SECTION.answers(name + ": blocks", () -> x.count(1), row[3]);
            SECTION.answers(name + ": the same behind another mount", x::mount, row[2]);
        }
        Subject x = beforeErasing();
        x.cut(0, 1);
        Check.outcome(() -> x.append(1, 100, 0));
        x.mount();
        SECTION.answers("taken again", () -> x.append(1, 101, 0), 1);
        SECTION.answers("it is there when it is begun", x::mount, 24);
        SECTION.answers("as the last one", () -> x.record(23, 1), 101);
    }

    private static void callThrows() {
        SECTION.sentence("The call throws IllegalStateException");
        for (int part = 0; part <= 2; part++) {
            Subject x = new Subject();
            x.cut(part, 3);
            SECTION.throwsOf("part " + part, () -> x.append(1, 0, 0), Section.ILLEGAL_STATE);
        }
        Subject x = new Subject();
        x.cut(3, 3);
        SECTION.answers("part 3 is not of this call", () -> x.append(1, 0, 0), 1);
    }

    private static void doesNotWaitAnyMore() {
        SECTION.sentence("the CUT does not wait any more");
        for (int part = 0; part <= 2; part++) {
            Subject x = new Subject();
            x.cut(part, 3);
            Check.outcome(() -> x.append(1, 0, 0));
            SECTION.answers("part " + part, () -> x.cut(9, 9), 0);
            Subject y = new Subject();
            y.cut(part, 3);
            Check.outcome(() -> y.append(1, 0, 0));
            y.mount();
            for (int i = 1; i <= 5; i++) {
                SECTION.answers("part " + part + ": record " + i + " passes", () -> y.append(1, 0, 0), i);
            }
        }
        Subject x = new Subject();
        x.cut(3, 3);
        x.append(1, 0, 0);
        SECTION.answers("it waits until it came", () -> x.cut(9, 9), 1);
    }

    private static void isDown() {
        SECTION.sentence("the log is DOWN");
        for (int part = 0; part <= 3; part++) {
            Subject x = new Subject();
            x.cut(part, 3);
            Check.outcome(() -> x.append(1, 0, 0));
            SECTION.answers("part " + part, () -> x.count(2), part <= 2 ? 1 : 0);
        }
    }

    private static void allCallsButThree() {
        SECTION.sentence("All calls but mount, cut, count throw IllegalStateException then.");
        for (Supplier<Subject> down : List.<Supplier<Subject>>of(States::down, States::downAtOnce)) {
            SECTION.refuses("feed", down, x -> x.feed(1, 2, 3, 4, 5), Section.ILLEGAL_STATE);
            SECTION.refuses("fill", down, x -> x.fill(1, 1), Section.ILLEGAL_STATE);
            SECTION.refuses("end", down, x -> x.end(0), Section.ILLEGAL_STATE);
            SECTION.refuses("append", down, x -> x.append(1, 0, 0), Section.ILLEGAL_STATE);
            SECTION.refuses("retire", down, x -> x.retire(0), Section.ILLEGAL_STATE);
            SECTION.refuses("retire of none", down, x -> x.retire(23), Section.ILLEGAL_STATE);
            SECTION.refuses("record", down, x -> x.record(0, 0), Section.ILLEGAL_STATE);
            SECTION.refuses("record of none", down, x -> x.record(-1, 0), Section.ILLEGAL_STATE);
            SECTION.refuses("word", down, x -> x.word(22, 0), Section.ILLEGAL_STATE);
            SECTION.refuses("word of none", down, x -> x.word(-1, -1), Section.ILLEGAL_STATE);
        }
        Subject x = States.down();
        SECTION.answers("count(2)", () -> x.count(2), 1);
        SECTION.answers("cut", () -> x.cut(9, 9), 1);
        SECTION.answers("mount", x::mount, 24);
        SECTION.answers("then they do not", () -> x.feed(1, 2, 3, 4, 5), 20);
    }
}
