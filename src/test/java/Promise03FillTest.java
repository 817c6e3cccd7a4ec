/** Promise 3, sentence by sentence. */
public final class Promise03FillTest {
    private static final Section SECTION = new Section("Promise 3");

    public static void main(String[] args) {
        rangeOfN();
        rangeOfV();
        likewiseTooLong();
        likewiseItsLength();
        SECTION.finish();
    }

    private static void rangeOfN() {
        SECTION.sentence("n bytes v (1 .. 1000; ..) come to the TAPE");
        for (int n : new int[] {Section.LEAST, -1, 0, 1001, Section.MOST}) {
            SECTION.refusesInAll("n " + n, States.all(), x -> x.fill(7, n), Section.ILLEGAL_ARGUMENT);
        }
        for (int n : new int[] {1, 2, 999, 1000}) {
            Subject x = new Subject();
            SECTION.answers("n " + n, () -> x.fill(7, n), n);
            x.append(1, 0, 0);
            SECTION.answers("n " + n + ": so many came", () -> x.record(0, 3), n);
            SECTION.answers("n " + n + ": the last of them", () -> x.word(0, n - 1), 7L << 56);
        }
    }

    private static void rangeOfV() {
        SECTION.sentence("n bytes v (..; 0 .. 255) come to the TAPE");
        for (int v : new int[] {Section.LEAST, -1, 256, Section.MOST}) {
            SECTION.refusesInAll("v " + v, States.all(), x -> x.fill(v, 1), Section.ILLEGAL_ARGUMENT);
        }
        for (int v : new int[] {0, 1, 127, 128, 254, 255}) {
            Subject x = new Subject();
            x.fill(200, 1);
            SECTION.answers("v " + v, () -> x.fill(v, 2), 3);
            x.fill(200, 1);
            x.append(1, 0, 0);
            long bytes = 200L << 56 | (long) v << 48 | (long) v << 40 | 200L << 32;
            SECTION.answers("v " + v + ": the bytes", () -> x.word(0, 0), bytes);
        }
    }

    private static void likewiseTooLong() {
        SECTION.sentence("likewise (it would have more than 1060: IndexOutOfBoundsException)");
        int[][] fits = {{60, 1000}, {1059, 1}, {1000, 60}, {60, 999}, {1058, 1}};
        for (int[] pair : fits) {
            Subject x = States.withTape(pair[0]);
            SECTION.answers(pair[0] + " and " + pair[1], () -> x.fill(7, pair[1]), pair[0] + pair[1]);
        }
        int[][] tooLong = {{61, 1000}, {1060, 1}, {1000, 61}, {1060, 1000}};
        for (int[] pair : tooLong) {
            SECTION.refuses(pair[0] + " and " + pair[1] + " (busy)", () -> States.busy(pair[0]),
                    x -> x.fill(7, pair[1]), Section.OUT_OF_BOUNDS);
            SECTION.refuses(pair[0] + " and " + pair[1] + " (quiet)", () -> States.quiet(pair[0]),
                    x -> x.fill(7, pair[1]), Section.OUT_OF_BOUNDS);
        }
        Subject x = States.withTape(1060);
        Check.outcome(() -> x.fill(7, 1));
        SECTION.answers("the tape is as before", () -> x.count(3), 1060);
    }

    private static void likewiseItsLength() {
        SECTION.sentence("likewise (Answers its length.)");
        Subject x = new Subject();
        SECTION.answers("1", () -> x.fill(1, 1), 1);
        SECTION.answers("1 and 20", () -> x.feed(0, 0, 0, 0, 0), 21);
        SECTION.answers("21 and 1000", () -> x.fill(2, 1000), 1021);
        SECTION.answers("1021 and 39", () -> x.fill(3, 39), 1060);
        SECTION.answers("count(3)", () -> x.count(3), 1060);
    }
}
