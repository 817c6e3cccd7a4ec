/** Promise 5, sentence by sentence. */
public final class Promise05AppendTest {
    private static final Section SECTION = new Section("Promise 5");

    public static void main(String[] args) {
        rangeOfKind();
        rangeOfMoment();
        rangeOfK();
        keyAndValue();
        tapeTooShort();
        tapeTooLong();
        noBlockLeft();
        comesIntoTheLog();
        howManyRecords();
        SECTION.finish();
    }

    private static void rangeOfKind() {
        SECTION.sentence("kind 1 .. 15");
        for (int kind : new int[] {Section.LEAST, -1, 0, 16, Section.MOST}) {
            SECTION.refusesInAll("kind " + kind, States.all(), x -> x.append(kind, 0, 0), Section.ILLEGAL_ARGUMENT);
        }
        Subject x = new Subject();
        for (int kind = 1; kind <= 15; kind++) {
            int asked = kind;
            SECTION.answers("kind " + kind, () -> x.append(asked, 0, 0), kind);
            SECTION.answers("kind " + kind + " is kept", () -> x.record(asked - 1, 0), kind);
        }
    }

    private static void rangeOfMoment() {
        SECTION.sentence("moment 0 or more");
        for (int moment : new int[] {Section.LEAST, -1}) {
            SECTION.refusesInAll("moment " + moment, States.all(), x -> x.append(1, moment, 0),
                    Section.ILLEGAL_ARGUMENT);
        }
        for (int moment : new int[] {0, 1, 255, 256, 0x01020304, Section.MOST - 1, Section.MOST}) {
            Subject x = new Subject();
            SECTION.answers("moment " + moment, () -> x.append(1, moment, 0), 1);
            SECTION.answers("moment " + moment + " is kept", () -> x.record(0, 1), moment);
            x.mount();
            SECTION.answers("moment " + moment + " is found", () -> x.record(0, 1), moment);
        }
    }

    private static void rangeOfK() {
        SECTION.sentence("k 0 .. 45");
        for (int k : new int[] {Section.LEAST, -1, 46, Section.MOST}) {
            SECTION.refusesInAll("k " + k, States.all(), x -> x.append(1, 0, k), Section.ILLEGAL_ARGUMENT);
            SECTION.refuses("k " + k + " with 500 bytes", () -> States.busy(500), x -> x.append(1, 0, k),
                    Section.ILLEGAL_ARGUMENT);
        }
        for (int k : new int[] {0, 1, 44, 45}) {
            Subject x = States.withTape(500);
            SECTION.answers("k " + k, () -> x.append(1, 0, k), 1);
            SECTION.answers("k " + k + " is kept", () -> x.record(0, 2), k);
        }
    }

    private static void keyAndValue() {
        SECTION.sentence("The TAPE: a KEY, its first k bytes, and a VALUE");
        int[][] pairs = {{0, 0}, {1, 1}, {45, 45}, {1, 0}, {46, 45}, {1000, 0}, {1045, 45}, {300, 20}};
        for (int[] pair : pairs) {
            int length = pair[0];
            int k = pair[1];
            String what = length + " bytes, k " + k;
            Subject x = States.withTape(length);
            x.append(1, 0, k);
            SECTION.answers(what + ": length of the key", () -> x.record(0, 2), k);
            SECTION.answers(what + ": length of the value", () -> x.record(0, 3), length - k);
            for (int j = 0; j < length; j += 8) {
                int at = j;
                SECTION.answers(what + ": bytes from " + j, () -> x.word(0, at), Subject.wordAt(j, length));
            }
        }
    }

    private static void tapeTooShort() {
        SECTION.sentence("it has k bytes at least .. else IllegalArgumentException");
        for (int k : new int[] {1, 2, 44, 45}) {
            SECTION.refuses(k - 1 + " bytes, k " + k, () -> States.busy(k - 1), x -> x.append(1, 0, k),
                    Section.ILLEGAL_ARGUMENT);
            SECTION.refuses("no bytes, k " + k, Subject::new, x -> x.append(1, 0, k), Section.ILLEGAL_ARGUMENT);
            SECTION.answers(k + " bytes, k " + k, () -> States.withTape(k).append(1, 0, k), 1);
            SECTION.answers(k + 1 + " bytes, k " + k, () -> States.withTape(k + 1).append(1, 0, k), 1);
        }
        SECTION.answers("no bytes, k 0", () -> new Subject().append(1, 0, 0), 1);
    }

    private static void tapeTooLong() {
        SECTION.sentence("and 1000 more at most; else IllegalArgumentException");
        for (int k : new int[] {0, 1, 44, 45}) {
            int most = k + 1000;
            SECTION.answers(most - 1 + " bytes, k " + k, () -> States.withTape(most - 1).append(1, 0, k), 1);
            SECTION.answers(most + " bytes, k " + k, () -> States.withTape(most).append(1, 0, k), 1);
            SECTION.refuses(most + 1 + " bytes, k " + k, () -> States.busy(most + 1), x -> x.append(1, 0, k),
                    Section.ILLEGAL_ARGUMENT);
            SECTION.refuses("1060 bytes, k " + k, () -> States.busy(1060), x -> x.append(1, 0, k),
                    Section.ILLEGAL_ARGUMENT);
        }
    }

    private static void noBlockLeft() {
        SECTION.sentence("It needs a new BLOCK, and THE LOG has 24: IndexOutOfBoundsException "
                + "(the TAPE is empty then).");
        SECTION.answers("it needs one, the log has 23", () -> States.begun(23).append(1, 0, 0), 1);
        SECTION.refusesBut("it needs one, none is open", () -> States.begun(24), x -> x.append(1, 0, 0),
                Section.OUT_OF_BOUNDS, x -> x.end(0));
        SECTION.refusesBut("with a tape, and a CUT that waits on", States::closed, x -> x.append(1, 0, 0),
                Section.OUT_OF_BOUNDS, x -> x.end(0));
        SECTION.answers("it needs none: the last has room to the byte", () -> States.almostFull().put(9, Subject.HALF),
                2);
        SECTION.refusesBut("it needs one: a byte too much", States::almostFull, x -> x.put(9, Subject.HALF + 1),
                Section.OUT_OF_BOUNDS, x -> x.end(0));
        Subject x = States.almostFull();
        x.lay(9, Subject.HALF + 1);
        Check.outcome(() -> x.append(1, 9, 12));
        SECTION.answers("the tape is empty", () -> x.count(3), 0);
        SECTION.answers("it is not down", () -> x.count(2), 0);
        SECTION.answers("nothing came", () -> x.count(0), 24);
        SECTION.answers("the last block is open still", () -> x.put(9, Subject.HALF), 2);
        SECTION.throwsOf("and full then, for the least record", () -> x.append(1, 0, 0), Section.OUT_OF_BOUNDS);
        SECTION.answers("with one retired there are fewer than 24", () -> x.retire(0), 23);
        SECTION.answers("and a new one comes", () -> x.append(1, 0, 0), 1);
    }

    private static void comesIntoTheLog() {
        SECTION.sentence("That RECORD comes into THE LOG.");
        Subject x = new Subject();
        for (int i = 0; i < 5; i++) {
            int number = i;
            x.put(100 + i, 800);
            SECTION.answers("there is one more", () -> x.count(0), i + 1);
            SECTION.answers("it is the last one", () -> x.record(number, 1), 100 + i);
            SECTION.throwsOf("none is behind it", () -> x.record(number + 1, 1), Section.NO_SUCH_ELEMENT);
        }
        SECTION.same("all in order", x.moments(), "100 101 102 103 104");
    }

    private static void howManyRecords() {
        SECTION.sentence("Answers how many RECORDS this BLOCK has.");
        Subject x = new Subject();
        for (int i = 1; i <= 226; i++) {
            SECTION.answers("record " + i + " of a block", () -> x.append(1, 0, 0), i);
        }
        SECTION.answers("the first of the next block", () -> x.append(1, 0, 0), 1);
        SECTION.answers("the second", () -> x.append(1, 0, 0), 2);
        x.mount();
        SECTION.answers("the first behind a mount", () -> x.append(1, 0, 0), 1);
        x.retire(0);
        SECTION.answers("retired blocks before it do not count", () -> x.append(1, 0, 0), 2);
    }
}
