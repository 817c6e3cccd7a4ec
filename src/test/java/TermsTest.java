/** The section "Terms", sentence by sentence; TermsCutTest and TermsThrownTest have what it says of CUT and throws. */
public final class TermsTest {
    private static final Section SECTION = new Section("Terms");

    public static void main(String[] args) {
        blocksOfTheChip();
        longestTape();
        readingEmptiesTheTape();
        leastAndGreatestRecord();
        bytesOfARecord();
        noneAtFirst();
        roomInTheLastBlock();
        onlyIfOpen();
        elseANewBlock();
        fewerThan24();
        erasedLeastOften();
        alsoIfCut();
        leastNumber();
        erasedAndBegun();
        theWay();
        SECTION.finish();
    }

    private static void blocksOfTheChip() {
        SECTION.sentence("THE CHIP has BLOCKS 0 .. 23 of 2048 bytes.");
        Subject x = new Subject();
        for (int i = 1; i <= 24; i++) {
            x.append(1, i, 0);
            x.mount();
            SECTION.answers("block " + i, () -> x.count(1), i);
        }
        SECTION.throwsOf("a 25th", () -> x.append(1, 25, 0), Section.OUT_OF_BOUNDS);
        Subject full = States.full();
        SECTION.answers("each has room for 2040 bytes of records", () -> full.put(47, Subject.HALF), 2);
        SECTION.answers("all of them", full::mount, 48);
    }

    private static void longestTape() {
        SECTION.sentence("THE TAPE has at most 1060 bytes");
        SECTION.answers("fill up to 1060", () -> States.withTape(1059).fill(1, 1), 1060);
        SECTION.refuses("fill beyond", () -> States.busy(1060), x -> x.fill(1, 1), Section.OUT_OF_BOUNDS);
        SECTION.answers("feed up to 1060", () -> States.withTape(1040).feed(1, 2, 3, 4, 5), 1060);
        SECTION.refuses("feed beyond", () -> States.busy(1041), x -> x.feed(1, 2, 3, 4, 5), Section.OUT_OF_BOUNDS);
        Subject x = States.withTape(1060);
        x.end(1045);
        x.put(1);
        for (int j = 0; j < 1045; j += 8) {
            int at = j;
            SECTION.answers("its bytes from " + j, () -> x.word(0, at), Subject.wordAt(j, 1045));
        }
        SECTION.answers("behind a record it has room for as many again", () -> x.fill(1, 1000) + x.fill(1, 60), 2060);
    }

    private static void readingEmptiesTheTape() {
        SECTION.sentence("a call that reads it leaves it empty, unless it throws IllegalArgumentException");
        Subject read = States.withTape(57);
        read.append(1, 0, 5);
        SECTION.answers("append", () -> read.count(3), 0);
        SECTION.answers("the next record has none of it", () -> read.append(1, 0, 0) + read.record(1, 3), 2);
        for (int part = 0; part <= 2; part++) {
            Subject cut = States.withTape(57);
            cut.cut(part, 4);
            Check.outcome(() -> cut.append(1, 0, 5));
            SECTION.answers("append, cut in part " + part, () -> cut.count(3), 0);
            cut.mount();
            SECTION.answers("append, cut in part " + part + ", behind mount", () -> cut.count(3), 0);
        }
        Subject full = States.closed();
        Check.outcome(() -> full.append(1, 0, 5));
        SECTION.answers("append with no block left", () -> full.count(3), 0);
        int[][] wrong = {{0, 0, 0}, {16, 0, 0}, {1, -1, 0}, {1, 0, -1}, {1, 0, 46}};
        for (int[] row : wrong) {
            Subject x = States.withTape(57);
            Check.outcome(() -> x.append(row[0], row[1], row[2]));
            SECTION.answers("append with a wrong number", () -> x.count(3), 57);
            x.append(1, 0, 0);
            SECTION.answers("its bytes are kept", () -> x.word(0, 50), Subject.wordAt(50, 57));
        }
        Subject tooLong = States.withTape(1001);
        Check.outcome(() -> tooLong.append(1, 0, 0));
        SECTION.answers("append of too long a tape", () -> tooLong.count(3), 1001);
        Subject tooShort = States.withTape(4);
        Check.outcome(() -> tooShort.append(1, 0, 5));
        SECTION.answers("append of too short a tape", () -> tooShort.count(3), 4);
        Subject other = States.busy();
        other.record(0, 1);
        other.word(22, 0);
        other.count(3);
        other.cut(1, 1);
        other.retire(0);
        SECTION.answers("calls that do not read it", () -> other.count(3), 57);
    }

    private static void leastAndGreatestRecord() {
        SECTION.sentence("A RECORD has a KIND, 1 .. 15, a MOMENT, a KEY of 0 .. 45 bytes and a VALUE of 0 .. 1000");
        Subject x = new Subject();
        x.append(1, 0, 0);
        x.layMany(1045);
        x.append(15, Section.MOST, 45);
        for (int mounts = 0; mounts < 2; mounts++) {
            String behind = ", behind " + mounts + " mounts";
            int[][] want = {{1, 0, 0, 0}, {15, Section.MOST, 45, 1000}};
            for (int what = 0; what <= 3; what++) {
                int asked = what;
                SECTION.answers("the least: " + what + behind, () -> x.record(0, asked), want[0][what]);
                SECTION.answers("the greatest: " + what + behind, () -> x.record(1, asked), want[1][what]);
            }
            SECTION.throwsOf("the least has no byte" + behind, () -> x.word(0, 0), Section.OUT_OF_BOUNDS);
            SECTION.answers("the last byte of the greatest" + behind, () -> x.word(1, 1044),
                    Subject.wordAt(1044, 1045));
            x.mount();
        }
    }

    private static void bytesOfARecord() {
        SECTION.sentence("and takes 9 bytes and those of KEY and VALUE");
        // How many records, their bytes, and the most bytes of one that has room behind them.
        int[][] rows = {{200, 0, 231}, {100, 1, 1031}, {60, 8, 1011}, {20, 45, 951}, {2, 1000, 13}, {1, 1045, 977}};
        for (int[] row : rows) {
            String behind = " behind " + row[0] + " of " + row[1] + " bytes";
            for (int k : new int[] {Math.max(0, row[1] - 1000), Math.min(row[1], 45)}) {
                SECTION.answers(row[2] + behind + ", k " + k, () -> blockOf(row[0], row[1], k).put(1, row[2]),
                        row[0] + 1);
                SECTION.answers(row[2] + 1 + behind + ", k " + k, () -> blockOf(row[0], row[1], k).put(1, row[2] + 1),
                        1);
            }
        }
        Subject least = new Subject();
        for (int i = 1; i <= 226; i++) {
            SECTION.answers("226 * 9 is 2034: record " + i, () -> least.append(1, 0, 0), i);
        }
        SECTION.answers("227 * 9 is 2043", () -> least.append(1, 0, 0), 1);
    }

    /** A block with so many records of so many bytes, k of them key. */
    private static Subject blockOf(int records, int bytes, int k) {
        Subject x = new Subject();
        for (int i = 0; i < records; i++) {
            x.lay(1, bytes);
            x.append(1, 0, k);
        }
        return x;
    }

    private static void noneAtFirst() {
        SECTION.sentence("THE LOG is a row of BLOCKS, each with RECORDS in a row, none at first.");
        Subject x = new Subject();
        SECTION.answers("no block", () -> x.count(1), 0);
        for (int i = 0; i < 6; i++) {
            x.put(i, 600);
        }
        SECTION.same("three in a block, block by block", x.moments(), "0 1 2 3 4 5");
        SECTION.answers("the third", () -> x.record(2, 4), 0);
        SECTION.answers("the fourth", () -> x.record(3, 4), 1);
    }

    private static void roomInTheLastBlock() {
        SECTION.sentence("and has room for it among its 2040 bytes");
        int[][] fits = {{1011, 1011}, {1045, 977}, {977, 1045}, {986, 1036}, {1010, 1011}, {1011, 1010}};
        for (int[] pair : fits) {
            Subject x = new Subject();
            x.put(1, pair[0]);
            SECTION.answers(pair[1] + " behind " + pair[0], () -> x.put(2, pair[1]), 2);
            SECTION.answers("both are found", x::mount, 2);
        }
        int[][] tooLong = {{1011, 1012}, {1045, 978}, {978, 1045}, {1012, 1011}, {1045, 1045}};
        for (int[] pair : tooLong) {
            Subject x = new Subject();
            x.put(1, pair[0]);
            SECTION.answers(pair[1] + " behind " + pair[0], () -> x.put(2, pair[1]), 1);
            SECTION.answers("two blocks", () -> x.count(1), 2);
            SECTION.answers("both are found", x::mount, 2);
        }
        for (int left = 0; left <= 10; left++) {
            Subject x = new Subject();
            x.put(1, Subject.HALF);
            x.put(2, Subject.HALF - left);
            SECTION.answers("the least record where " + left + " bytes are left", () -> x.append(1, 3, 0),
                    left >= 9 ? 3 : 1);
        }
    }

    private static void onlyIfOpen() {
        SECTION.sentence("A RECORD comes behind the others of the last BLOCK, if that is OPEN");
        Subject open = States.open(2);
        SECTION.answers("open", () -> open.append(1, 2, 0), 2);
        SECTION.answers("open: in the last block", () -> open.record(2, 4), 1);
        Subject mounted = States.open(2);
        mounted.mount();
        SECTION.answers("mounted", () -> mounted.append(1, 2, 0), 1);
        SECTION.answers("mounted: in a new block", () -> mounted.record(2, 4), 2);
        Subject retired = States.open(2);
        retired.retire(1);
        SECTION.answers("the open one retired", () -> retired.append(1, 2, 0), 1);
        SECTION.answers("the open one retired: in a new block", () -> retired.record(1, 4), 1);
    }

    private static void elseANewBlock() {
        SECTION.sentence("else into a new BLOCK, which is the last one then, and OPEN");
        Subject x = new Subject();
        x.put(1, 1000);
        x.put(2, 1045);
        SECTION.answers("a new block", () -> x.record(1, 4), 1);
        SECTION.answers("a small record comes into it, though the other has room too", () -> x.put(3, 1), 2);
        SECTION.same("in order", x.moments(), "1 2 3");
        SECTION.answers("the small one's block", () -> x.record(2, 4), 1);
    }

    private static void fewerThan24() {
        SECTION.sentence("A new one is taken only if THE LOG has fewer than 24");
        SECTION.answers("22", () -> States.begun(22).append(1, 0, 0), 1);
        SECTION.answers("23", () -> States.begun(23).append(1, 0, 0), 1);
        SECTION.refuses("24", () -> States.begun(24), x -> x.append(1, 0, 0), Section.OUT_OF_BOUNDS);
        Subject x = States.begun(24);
        x.cut(0, 0);
        SECTION.throwsOf("24, and nothing is begun that could be cut", () -> x.append(1, 0, 0),
                Section.OUT_OF_BOUNDS);
        SECTION.answers("the CUT waits", () -> x.cut(3, 0), 1);
        x.retire(11);
        SECTION.answers("23 again", () -> x.append(1, 100, 0), 1);
        SECTION.answers("24 again, the last one open", () -> x.count(1), 24);
    }

    /** Which record is lost by the next one, when the blocks of these numbers in the log were retired. */
    private static String lostBy(int moment, Subject x, int... retired) {
        String before = x.moments();
        for (int i : retired) {
            x.retire(i);
        }
        x.append(1, moment, 0);
        x.mount();
        String after = " " + x.moments() + " ";
        StringBuilder lost = new StringBuilder();
        for (String old : before.split(" ")) {
            if (!after.contains(" " + old + " ")) {
                lost.append(old);
            }
        }
        return lost.toString();
    }

    private static void erasedLeastOften() {
        SECTION.sentence("of those that are none of THE LOG the one whose erasing was begun least often");
        SECTION.same("one that was never erased, before one that was", lostBy(1000, States.begun(23), 0), "");
        SECTION.same("the only one that is left", lostBy(1000, States.begun(24), 17), "17");
        Subject x = States.begun(24);
        SECTION.same("block 2 is begun anew", lostBy(1000, x, 2), "2");
        SECTION.same("then not again, though its number is less", lostBy(1001, x, 23, 20), "21");
        SECTION.same("only those that are none of the log", lostBy(1002, x, 23, 22), "1000");
    }

    private static void alsoIfCut() {
        SECTION.sentence("(also if a CUT left it in part or undone)");
        for (int b : new int[] {0, 1, 2047}) {
            Subject x = States.begun(24);
            x.retire(2);
            x.cut(0, b);
            Check.outcome(() -> x.append(1, 500, 0));
            x.mount();
            if (b == 0) {
                SECTION.same("undone: the one erased less often, not the less number", lostBy(1000, x, 20, 2), "20");
            } else {
                SECTION.same("cut at " + b + ": the one erased less often", lostBy(1000, x, 19), "20");
            }
        }
        for (int b : new int[] {0, 5}) {
            Subject x = States.begun(24);
            x.retire(2);
            x.cut(1, b);
            Check.outcome(() -> x.append(1, 500, 0));
            x.mount();
            SECTION.same("its beginning cut at " + b, lostBy(1000, x, 19), "20");
        }
    }

    private static void leastNumber() {
        SECTION.sentence("of such the one with the least number");
        SECTION.same("retired last", lostBy(1000, States.begun(24), 9, 4), "4");
        SECTION.same("retired first", lostBy(1000, States.begun(24), 4, 8), "4");
        SECTION.same("of all", lostBy(1000, States.begun(24), 23, 0, 10), "0");
        Subject x = States.begun(24);
        for (int moment = 12; moment < 24; moment++) {
            x.retire(12);
        }
        for (int i = 0; i < 12; i++) {
            x.append(1, 100 + i, 0);
            x.retire(12);
        }
        for (int i = 0; i < 12; i++) {
            x.retire(0);
            x.append(1, 200 + i, 0);
            x.mount();
        }
        SECTION.same("all erased twice, block 12 before block 0", x.moments().substring(0, 11), "100 101 102");
        SECTION.same("the number holds, not the order of beginning", lostBy(1000, x, 0, 11), "200");
    }

    private static void erasedAndBegun() {
        SECTION.sentence("it is erased and begun");
        Subject x = States.full();
        x.put(47, Subject.HALF);
        x.retire(0);
        x.append(1, 100, 0);
        SECTION.answers("it has the new record alone", () -> x.record(46, 1), 100);
        SECTION.answers("also behind mount", x::mount, 47);
        SECTION.answers("it is the last one", () -> x.record(46, 4), 23);
        SECTION.answers("nothing was written over", () -> x.count(4), 0);
    }

    private static void theWay() {
        SECTION.sentence("RECORDS have numbers from 0, in the order in which they stand.");
        Subject x = new Subject();
        for (int i = 0; i < 5; i++) {
            x.put(10 + i, 900);
        }
        SECTION.same("block by block", x.moments(), "10 11 12 13 14");
        SECTION.answers("0", () -> x.record(0, 1), 10);
        SECTION.answers("4 of 5", () -> x.record(4, 1), 14);
        SECTION.throwsOf("5 of 5", () -> x.record(5, 1), Section.NO_SUCH_ELEMENT);
        SECTION.throwsOf("-1", () -> x.record(-1, 1), Section.NO_SUCH_ELEMENT);
        x.retire(0);
        SECTION.answers("0 when the first block was retired", () -> x.record(0, 1), 12);
        SECTION.answers("word goes by the same numbers", () -> x.word(0, 0) >>> 56, 12);
        x.mount();
        SECTION.answers("0 when it came back", () -> x.record(0, 1), 10);
    }
}
