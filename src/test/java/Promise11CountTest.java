/** Promise 11, sentence by sentence. */
public final class Promise11CountTest {
    private static final Section SECTION = new Section("Promise 11");

    public static void main(String[] args) {
        recordsAndBlocks();
        down();
        bytesOfTheTape();
        bytesNotErasedBefore();
        rangeOfWhat();
        whenDown();
        SECTION.finish();
    }

    private static void recordsAndBlocks() {
        SECTION.sentence("0 RECORDS, 1 BLOCKS of THE LOG");
        Subject x = new Subject();
        for (int i = 1; i <= 48; i++) {
            x.put(i, Subject.HALF);
            SECTION.answers("records", () -> x.count(0), i);
            SECTION.answers("blocks", () -> x.count(1), (i + 1) / 2);
        }
        x.retire(0);
        SECTION.answers("records when a block was retired", () -> x.count(0), 46);
        SECTION.answers("blocks then", () -> x.count(1), 23);
        x.cut(0, 0);
        Check.outcome(() -> x.append(1, 0, 0));
        x.mount();
        SECTION.answers("records when it came back", () -> x.count(0), 48);
        SECTION.answers("blocks then", () -> x.count(1), 24);
        Subject empty = new Subject();
        empty.cut(2, 0);
        Check.outcome(() -> empty.append(1, 0, 0));
        empty.mount();
        SECTION.answers("no records", () -> empty.count(0), 0);
        SECTION.answers("in one block", () -> empty.count(1), 1);
    }

    private static void down() {
        SECTION.sentence("2: 1 if it is DOWN, else 0");
        Subject x = new Subject();
        SECTION.answers("new", () -> x.count(2), 0);
        x.cut(0, 0);
        SECTION.answers("a CUT waits", () -> x.count(2), 0);
        Check.outcome(() -> x.append(1, 0, 0));
        SECTION.answers("it came", () -> x.count(2), 1);
        x.cut(0, 0);
        SECTION.answers("another waits", () -> x.count(2), 1);
        x.mount();
        SECTION.answers("behind mount", () -> x.count(2), 0);
        Subject full = States.begun(24);
        Check.outcome(() -> full.append(1, 0, 0));
        SECTION.answers("when no block was left", () -> full.count(2), 0);
    }

    private static void bytesOfTheTape() {
        SECTION.sentence("3 bytes of the TAPE (0 when DOWN)");
        for (int length : new int[] {0, 1, 1000, 1045}) {
            Subject x = States.withTape(length);
            SECTION.answers("a tape of " + length, () -> x.count(3), length);
            x.cut(0, 0);
            Check.outcome(() -> x.append(1, 0, Math.max(0, length - 1000)));
            SECTION.answers("a tape of " + length + ", when down", () -> x.count(3), 0);
            x.mount();
            SECTION.answers("a tape of " + length + ", behind mount", () -> x.count(3), 0);
        }
        SECTION.answers("a tape of 1060", () -> States.withTape(1060).count(3), 1060);
    }

    private static void bytesNotErasedBefore() {
        SECTION.sentence("4 bytes that were written and not erased before (none, if all is right)");
        States.all().forEach((name, state) -> SECTION.answers(name, () -> state.get().count(4), 0));
        SECTION.answers("full", () -> States.full().count(4), 0);
        int[][] cuts = {{0, 0}, {0, 1}, {0, 2047}, {1, 1}, {1, 5}, {2, 1}, {2, 500}};
        for (int[] cut : cuts) {
            Subject x = States.full();
            for (int i = 0; i < 10; i++) {
                x.retire(0);
                x.cut(cut[0], cut[1]);
                Check.outcome(() -> x.put(50, Subject.HALF));
                x.mount();
            }
            x.retire(0);
            x.put(60, Subject.HALF);
            x.put(61, Subject.HALF);
            SECTION.answers("behind ten of cut(" + cut[0] + ", " + cut[1] + ")", () -> x.count(4), 0);
        }
    }

    private static void rangeOfWhat() {
        SECTION.sentence("what 0 .. 4");
        for (int what : new int[] {Section.LEAST, -1, 5, Section.MOST}) {
            SECTION.refusesInAll("what " + what, States.all(), x -> x.count(what), Section.ILLEGAL_ARGUMENT);
        }
        int[] want = {23, 22, 0, 57, 0};
        for (int what = 0; what <= 4; what++) {
            int asked = what;
            SECTION.answers("what " + what, () -> States.busy().count(asked), want[what]);
        }
    }

    private static void whenDown() {
        SECTION.sentence("0 and 1 when it is DOWN: IllegalStateException");
        for (int what = 0; what <= 1; what++) {
            int asked = what;
            SECTION.refuses("what " + what, States::down, x -> x.count(asked), Section.ILLEGAL_STATE);
            SECTION.refuses("what " + what + " of none", States::downAtOnce, x -> x.count(asked),
                    Section.ILLEGAL_STATE);
        }
        int[] want = {0, 0, 1, 0, 0};
        for (int what = 2; what <= 4; what++) {
            int asked = what;
            SECTION.answers("what " + what, () -> States.down().count(asked), want[what]);
        }
    }
}
