/** Promise 9, sentence by sentence. */
public final class Promise09RecordTest {
    private static final Section SECTION = new Section("Promise 9");

    public static void main(String[] args) {
        ofRecord();
        numberOfItsBlock();
        thereIsNone();
        rangeOfWhat();
        SECTION.finish();
    }

    private static void ofRecord() {
        SECTION.sentence("Of RECORD i: 0 KIND, 1 MOMENT, 2, 3 the lengths of KEY and VALUE");
        int[][] records = {{1, 0, 0, 0}, {15, Section.MOST, 45, 1000}, {7, 0x01020304, 45, 0}, {8, 255, 0, 1000},
            {9, 256, 1, 255}, {10, 65536, 44, 256}};
        Subject x = new Subject();
        for (int[] row : records) {
            x.lay(90, row[2] + row[3]);
            x.append(row[0], row[1], row[2]);
        }
        for (int mounts = 0; mounts < 2; mounts++) {
            for (int i = 0; i < records.length; i++) {
                for (int what = 0; what <= 3; what++) {
                    int number = i;
                    int asked = what;
                    SECTION.answers("record(" + i + ", " + what + ") behind " + mounts + " mounts",
                            () -> x.record(number, asked), records[i][what]);
                }
            }
            x.mount();
        }
    }

    private static void numberOfItsBlock() {
        SECTION.sentence("4 the number of its BLOCK in THE LOG");
        Subject x = States.full();
        for (int i = 0; i < 47; i++) {
            int number = i;
            SECTION.answers("record(" + i + ", 4)", () -> x.record(number, 4), i / 2);
        }
        x.retire(1);
        SECTION.answers("before a block that was retired", () -> x.record(1, 4), 0);
        SECTION.answers("behind it", () -> x.record(2, 4), 1);
        SECTION.answers("the last", () -> x.record(44, 4), 22);
        Subject empty = new Subject();
        empty.cut(2, 0);
        Check.outcome(() -> empty.append(1, 0, 0));
        empty.mount();
        empty.append(1, 1, 0);
        SECTION.answers("a block without records counts", () -> empty.record(0, 4), 1);
    }

    private static void thereIsNone() {
        SECTION.sentence("There is none: NoSuchElementException.");
        for (int i : new int[] {Section.LEAST, -1, 2040, Section.MOST}) {
            SECTION.refusesInAll("i " + i, States.up(), x -> x.record(i, 1), Section.NO_SUCH_ELEMENT);
        }
        SECTION.refuses("i 0 of none", Subject::new, x -> x.record(0, 1), Section.NO_SUCH_ELEMENT);
        for (int what = 0; what <= 4; what++) {
            int asked = what;
            SECTION.refuses("i 23 of 23, what " + what, States::busy, x -> x.record(23, asked),
                    Section.NO_SUCH_ELEMENT);
            SECTION.refuses("i -1, what " + what, States::busy, x -> x.record(-1, asked), Section.NO_SUCH_ELEMENT);
        }
        SECTION.answers("i 22 of 23", () -> States.busy().record(22, 1), 61);
        SECTION.answers("i 0 of 23", () -> States.busy().record(0, 1), 0);
        Subject x = States.begun(1);
        x.retire(0);
        SECTION.throwsOf("i 0 when its block was retired", () -> x.record(0, 1), Section.NO_SUCH_ELEMENT);
        x.mount();
        SECTION.answers("i 0 when it came back", () -> x.record(0, 1), 0);
    }

    private static void rangeOfWhat() {
        SECTION.sentence("what 0 .. 4.");
        for (int what : new int[] {Section.LEAST, -1, 5, Section.MOST}) {
            SECTION.refusesInAll("what " + what, States.all(), x -> x.record(0, what), Section.ILLEGAL_ARGUMENT);
        }
        Subject x = States.withTape(12);
        x.append(3, 4, 5);
        SECTION.answers("what 0", () -> x.record(0, 0), 3);
        SECTION.answers("what 4", () -> x.record(0, 4), 0);
    }
}
