/** Promise 6, sentence by sentence. */
public final class Promise06RetireTest {
    private static final Section SECTION = new Section("Promise 6");

    public static void main(String[] args) {
        range();
        thereIsNone();
        noneOfTheLog();
        mayBeTaken();
        noneIsOpen();
        howManyAreLeft();
        SECTION.finish();
    }

    private static void range() {
        SECTION.sentence("i 0 .. 23");
        for (int i : new int[] {Section.LEAST, -1, 24, Section.MOST}) {
            SECTION.refusesInAll("i " + i, States.all(), x -> x.retire(i), Section.ILLEGAL_ARGUMENT);
        }
        SECTION.answers("i 0 of 24", () -> States.begun(24).retire(0), 23);
        SECTION.answers("i 23 of 24", () -> States.begun(24).retire(23), 23);
    }

    private static void thereIsNone() {
        SECTION.sentence("BLOCK i of THE LOG, from its beginning on; there is none: NoSuchElementException");
        for (int blocks : new int[] {0, 1, 2, 23}) {
            String of = " of " + blocks;
            SECTION.refuses("i " + blocks + of, () -> States.begun(blocks), x -> x.retire(blocks),
                    Section.NO_SUCH_ELEMENT);
            SECTION.refuses("i 23" + of, () -> States.begun(blocks), x -> x.retire(23), Section.NO_SUCH_ELEMENT);
            if (blocks > 0) {
                SECTION.answers("i " + (blocks - 1) + of, () -> States.begun(blocks).retire(blocks - 1), blocks - 1);
            }
        }
        SECTION.refuses("i 22 of 22", States::busy, x -> x.retire(22), Section.NO_SUCH_ELEMENT);
        SECTION.answers("i 21 of 22", () -> States.busy().retire(21), 21);
        Subject x = States.begun(4);
        x.retire(1);
        x.retire(1);
        SECTION.same("it is counted in the log as it is now", x.moments(), "0 3");
    }

    private static void noneOfTheLog() {
        SECTION.sentence("It is none of THE LOG any more, with its RECORDS");
        for (int i = 0; i < 3; i++) {
            Subject x = new Subject();
            for (int moment = 0; moment < 6; moment++) {
                x.put(moment, Subject.HALF);
            }
            x.retire(i);
            String left = "0 1 2 3 4 5".replace(2 * i + " " + (2 * i + 1), "").trim().replace("  ", " ");
            SECTION.same("block " + i + " of 3", x.moments(), left);
            SECTION.answers("records", () -> x.count(0), 4);
            SECTION.answers("blocks", () -> x.count(1), 2);
            SECTION.answers("the last record's block", () -> x.record(3, 4), 1);
            SECTION.throwsOf("no fifth record", () -> x.record(4, 0), Section.NO_SUCH_ELEMENT);
        }
        Subject x = States.busy();
        x.retire(0);
        SECTION.answers("the tape is not read", () -> x.count(3), 57);
        SECTION.answers("a CUT waits on", () -> x.cut(0, 0), 1);
    }

    private static void mayBeTaken() {
        SECTION.sentence("(the BLOCK may be taken as a new one)");
        Subject x = States.begun(24);
        SECTION.throwsOf("with 24 there is none", () -> x.append(1, 100, 0), Section.OUT_OF_BOUNDS);
        x.retire(7);
        SECTION.answers("with one retired it is taken", () -> x.append(1, 100, 0), 1);
        SECTION.answers("it is the last one", () -> x.record(23, 1), 100);
        SECTION.answers("its old record is gone for good", x::mount, 24);
        SECTION.answers("the next one is in its place", () -> x.record(7, 1), 8);
    }

    private static void noneIsOpen() {
        SECTION.sentence("If it was the last one, none is OPEN.");
        Subject last = States.open(3);
        last.retire(2);
        SECTION.answers("the last one: a new block", () -> last.append(1, 100, 0), 1);
        SECTION.answers("the last one: behind the two that are left", () -> last.count(1), 3);
        SECTION.same("the last one: what is there", last.moments(), "0 1 100");
        for (int i = 0; i < 2; i++) {
            Subject other = States.open(3);
            other.retire(i);
            SECTION.answers("block " + i + " of 3: the last is open still", () -> other.append(1, 100, 0), 2);
            SECTION.answers("block " + i + " of 3: no new block", () -> other.count(1), 2);
        }
        Subject only = States.open(1);
        only.retire(0);
        SECTION.answers("the only one: a new block", () -> only.append(1, 100, 0), 1);
        SECTION.same("the only one: what is there", only.moments(), "100");
        SECTION.answers("the only one: the new one is open", () -> only.append(1, 101, 0), 2);
        Subject closed = States.begun(3);
        closed.retire(0);
        SECTION.answers("none was open: a new block", () -> closed.append(1, 100, 0), 1);
    }

    private static void howManyAreLeft() {
        SECTION.sentence("Answers how many BLOCKS are left.");
        Subject x = States.begun(24);
        for (int left = 23; left >= 0; left--) {
            int i = left / 2;
            SECTION.answers("of " + (left + 1), () -> x.retire(i), left);
            SECTION.answers("count(1)", () -> x.count(1), left);
        }
        SECTION.throwsOf("of none", () -> x.retire(0), Section.NO_SUCH_ELEMENT);
    }
}
