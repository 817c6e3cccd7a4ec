/** Promise 2, sentence by sentence. */
public final class Promise02FeedTest {
    private static final Section SECTION = new Section("Promise 2");

    public static void main(String[] args) {
        twentyBytes();
        moreThan1060();
        itsLength();
        SECTION.finish();
    }

    private static void twentyBytes() {
        SECTION.sentence("The 20 bytes of five ints, the highest of each first, come to the TAPE");
        Subject x = new Subject();
        x.fill(0xEE, 3);
        x.feed(0x01020304, 0x05060708, -1, Section.LEAST, Section.MOST);
        x.append(1, 0, 4);
        SECTION.answers("behind what was there", () -> x.word(0, 0), 0xEEEEEE0102030405L);
        SECTION.answers("int by int", () -> x.word(0, 3), 0x0102030405060708L);
        SECTION.answers("the least numbers", () -> x.word(0, 11), 0xFFFFFFFF80000000L);
        SECTION.answers("the greatest number, and nothing behind it", () -> x.word(0, 19), 0x7FFFFFFF00000000L);
        SECTION.answers("3 bytes and 20", () -> x.record(0, 2) + x.record(0, 3), 23);
    }

    private static void moreThan1060() {
        SECTION.sentence("it would have more than 1060: IndexOutOfBoundsException");
        SECTION.answers("1039 and 20", () -> feedBehind(1039), 1059);
        SECTION.answers("1040 and 20", () -> feedBehind(1040), 1060);
        for (int length : new int[] {1041, 1060}) {
            SECTION.refuses(length + " and 20 (busy)", () -> States.busy(length), Promise02FeedTest::feedOnce,
                    Section.OUT_OF_BOUNDS);
            SECTION.refuses(length + " and 20 (quiet)", () -> States.quiet(length), Promise02FeedTest::feedOnce,
                    Section.OUT_OF_BOUNDS);
        }
        Subject x = States.withTape(1060);
        Check.outcome(() -> feedOnce(x));
        SECTION.answers("the tape is as before", () -> x.count(3), 1060);
        x.end(1040);
        SECTION.answers("and takes 20 when it was shortened", () -> feedOnce(x), 1060);
    }

    private static void itsLength() {
        SECTION.sentence("Answers its length.");
        Subject x = new Subject();
        for (int length = 20; length <= 1060; length += 20) {
            SECTION.answers("feed up to " + length, () -> feedOnce(x), length);
            SECTION.answers("count(3)", () -> x.count(3), length);
        }
        SECTION.answers("behind 1 byte", () -> feedBehind(1), 21);
    }

    private static long feedBehind(int n) {
        return feedOnce(States.withTape(n));
    }

    private static long feedOnce(Subject x) {
        return x.feed(1, 2, 3, 4, 5);
    }
}
