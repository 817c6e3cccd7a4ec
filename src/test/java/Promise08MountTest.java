/** Promise 8, sentence by sentence. */
public final class Promise08MountTest {
    private static final Section SECTION = new Section("Promise 8");

    public static void main(String[] args) {
        downOrNot();
        emptyTape();
        noneOpen();
        cutWaitsOn();
        begunAndNotErased();
        inTheOrderOfBeginning();
        roundTheChip();
        retiredComeBack();
        howManyRecords();
        SECTION.finish();
    }

    private static void downOrNot() {
        SECTION.sentence("Whether it is DOWN or not: it is not any more");
        Subject x = States.open(2);
        SECTION.answers("not down", x::mount, 2);
        SECTION.answers("not down: it is not", () -> x.count(2), 0);
        x.takeDown();
        SECTION.answers("down", () -> x.count(2), 1);
        SECTION.answers("down: what is found", x::mount, 2);
        SECTION.answers("down: it is not any more", () -> x.count(2), 0);
        SECTION.answers("calls answer again", () -> x.fill(1, 1), 1);
        SECTION.answers("a new object", () -> new Subject().mount(), 0);
    }

    private static void emptyTape() {
        SECTION.sentence("the TAPE is empty");
        for (int length : new int[] {0, 1, 1060}) {
            Subject x = States.withTape(length);
            x.mount();
            SECTION.answers("a tape of " + length, () -> x.count(3), 0);
            SECTION.throwsOf("end(1)", () -> x.end(1), Section.ILLEGAL_ARGUMENT);
            SECTION.answers("feed", () -> x.feed(1, 2, 3, 4, 5), 20);
        }
    }

    private static void noneOpen() {
        SECTION.sentence("no BLOCK is OPEN");
        Subject x = States.open(1);
        SECTION.answers("without a mount it is", () -> x.append(1, 1, 0), 2);
        x.mount();
        SECTION.answers("behind it a new block comes", () -> x.append(1, 2, 0), 1);
        SECTION.answers("so there are two", () -> x.count(1), 2);
        SECTION.answers("that is open", () -> x.append(1, 3, 0), 2);
        x.takeDown();
        x.mount();
        SECTION.answers("also when it was down", () -> x.append(1, 4, 0), 1);
        Subject full = States.open(24);
        full.mount();
        SECTION.throwsOf("with 24 none comes", () -> full.append(1, 24, 0), Section.OUT_OF_BOUNDS);
        SECTION.answers("without a mount the last of 24 is open", () -> States.open(24).append(1, 24, 0), 2);
    }

    private static void cutWaitsOn() {
        SECTION.sentence("(a CUT waits on)");
        Subject x = States.open(1);
        x.cut(2, 0);
        x.append(1, 1, 0);
        x.mount();
        SECTION.throwsOf("with the parts that were left: one passes", () -> x.append(1, 2, 0), Section.ILLEGAL_STATE);
        SECTION.answers("the cut was in the beginning", () -> x.mount() + 100 * x.count(1), 2 + 100);
        SECTION.answers("it does not come again", () -> x.append(1, 3, 0), 1);
        Subject down = States.downAtOnce();
        down.cut(1, 0);
        down.mount();
        SECTION.answers("also one that was set when down", () -> down.cut(1, 0), 1);
        SECTION.answers("and where none waits, none does then", () -> mounted(States.open(1)).cut(0, 0), 0);
    }

    private static Subject mounted(Subject x) {
        x.mount();
        return x;
    }

    private static void begunAndNotErased() {
        SECTION.sentence("all BLOCKS that were begun and not erased since");
        SECTION.answers("none", () -> mounted(new Subject()).count(1), 0);
        SECTION.answers("all 24", () -> mounted(States.open(24)).count(1), 24);
        int[][] cuts = {{0, 0, 1}, {0, 1, 1}, {0, 2047, 1}, {1, 0, 1}, {1, 5, 1}, {2, 0, 2}, {2, 8, 2}};
        for (int[] row : cuts) {
            Subject x = States.begun(1);
            x.cut(row[0], row[1]);
            Check.outcome(() -> x.append(1, 1, 0));
            x.mount();
            SECTION.answers("a never begun block, cut(" + row[0] + ", " + row[1] + ")", () -> x.count(1), row[2]);
            SECTION.same("its records", x.moments(), "0");
        }
        cuts = new int[][] {{0, 0, 24}, {0, 1, 23}, {0, 2047, 23}, {1, 0, 23}, {1, 5, 23}, {2, 0, 24}, {2, 8, 24}};
        for (int[] row : cuts) {
            Subject x = States.begun(24);
            x.retire(23);
            x.cut(row[0], row[1]);
            Check.outcome(() -> x.append(1, 24, 0));
            SECTION.answers("a begun block, cut(" + row[0] + ", " + row[1] + "): records", x::mount,
                    row[0] == 0 && row[1] == 0 ? 24 : 23);
            SECTION.answers("blocks", () -> x.count(1), row[2]);
        }
    }

    private static void inTheOrderOfBeginning() {
        SECTION.sentence("in the order in which they were begun");
        Subject x = States.begun(24);
        x.retire(5);
        x.append(1, 100, 0);
        x.mount();
        SECTION.same("block 5 begun anew", x.moments(),
                "0 1 2 3 4 6 7 8 9 10 11 12 13 14 15 16 17 18 19 20 21 22 23 100");
        x.retire(0);
        x.retire(0);
        x.append(1, 101, 0);
        x.mount();
        SECTION.same("block 0 too", x.moments(),
                "1 2 3 4 6 7 8 9 10 11 12 13 14 15 16 17 18 19 20 21 22 23 100 101");
    }

    private static void roundTheChip() {
        SECTION.sentence("in the order in which they were begun (several times round the chip)");
        Subject kept = new Subject();
        for (int i = 0; i < 139; i++) {
            if (i >= 24) {
                kept.retire(0);
            }
            kept.append(1, i, 0);
            kept.mount();
        }
        SECTION.same("139 blocks begun, the first retired each time", kept.moments(), lastBefore(139));
        SECTION.answers("all was erased before", () -> kept.count(4), 0);
        Subject retired = new Subject();
        for (int i = 0; i < 232; i++) {
            retired.append(1, i, 0);
            retired.retire(0);
        }
        retired.mount();
        SECTION.same("232 blocks begun, all retired at once", retired.moments(), lastBefore(232));
    }

    /** The last 24 moments before this one, which are all that the chip can hold with one in each block. */
    private static String lastBefore(int moment) {
        StringBuilder text = new StringBuilder();
        for (int i = moment - 24; i < moment; i++) {
            text.append(i).append(' ');
        }
        return text.toString().trim();
    }

    private static void retiredComeBack() {
        SECTION.sentence("(those that were retired, too, come back so)");
        Subject x = States.begun(4);
        x.retire(3);
        x.retire(1);
        SECTION.same("before", x.moments(), "0 2");
        x.append(1, 100, 0);
        SECTION.answers("mount", x::mount, 5);
        SECTION.same("where they were begun", x.moments(), "0 1 2 3 100");
        while (x.count(1) > 0) {
            x.retire(0);
        }
        SECTION.answers("all of them retired", x::mount, 5);
        SECTION.same("in the same order", x.moments(), "0 1 2 3 100");
        Subject taken = States.begun(24);
        taken.retire(0);
        taken.append(1, 100, 0);
        SECTION.answers("but not one that was taken since", taken::mount, 24);
        SECTION.answers("its first record", () -> taken.record(0, 1), 1);
    }

    private static void howManyRecords() {
        SECTION.sentence("Answers how many RECORDS it has.");
        SECTION.answers("none", () -> new Subject().mount(), 0);
        Subject empty = new Subject();
        empty.cut(2, 0);
        Check.outcome(() -> empty.append(1, 0, 0));
        SECTION.answers("a block without any", empty::mount, 0);
        SECTION.answers("though there is a block", () -> empty.count(1), 1);
        Subject least = new Subject();
        for (int i = 0; i < 227; i++) {
            least.append(1, i, 0);
        }
        SECTION.answers("226 in a block and one", least::mount, 227);
        SECTION.answers("two in each, one in the last", () -> States.full().mount(), 47);
        Subject wholly = States.full();
        wholly.put(47, Subject.HALF);
        SECTION.answers("24 blocks that are full to the byte", wholly::mount, 48);
        SECTION.answers("the last record of all", () -> wholly.word(47, Subject.HALF - 1), 47L << 56);
        SECTION.answers("count(0)", () -> wholly.count(0), 48);
    }
}
