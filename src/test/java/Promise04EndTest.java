/** Promise 4, sentence by sentence. */
public final class Promise04EndTest {
    private static final Section SECTION = new Section("Promise 4");

    public static void main(String[] args) {
        keepsItsFirst();
        range();
        answersN();
        SECTION.finish();
    }

    private static void keepsItsFirst() {
        SECTION.sentence("The TAPE keeps its first n bytes");
        Subject x = new Subject();
        x.feed(0x01020304, 0x05060708, 0, 0, 0);
        x.end(3);
        x.fill(9, 1);
        x.append(1, 0, 0);
        SECTION.answers("3 of 20, and one more", () -> x.word(0, 0), 0x0102030900000000L);
        SECTION.answers("no other is left", () -> x.record(0, 3), 4);
        x.feed(1, 2, 3, 4, 5);
        x.end(0);
        SECTION.answers("a record of none of them", () -> x.append(1, 0, 0), 2);
        SECTION.answers("it has no bytes", () -> x.record(1, 3), 0);
        x.feed(0x01020304, 0x05060708, 0, 0, 0x0A0B0C0D);
        x.end(20);
        x.append(1, 0, 0);
        SECTION.answers("all of them", () -> x.word(2, 16), 0x0A0B0C0D00000000L);
    }

    private static void range() {
        SECTION.sentence("n 0 .. its length");
        for (int n : new int[] {Section.LEAST, -1, 1061, Section.MOST}) {
            SECTION.refusesInAll("n " + n, States.all(), x -> x.end(n), Section.ILLEGAL_ARGUMENT);
        }
        for (int length : new int[] {0, 1, 20, 57, 1059, 1060}) {
            String of = " of " + length;
            SECTION.refuses("n -1" + of, () -> States.busy(length), x -> x.end(-1), Section.ILLEGAL_ARGUMENT);
            SECTION.refuses("n " + (length + 1) + of, () -> States.busy(length), x -> x.end(length + 1),
                    Section.ILLEGAL_ARGUMENT);
            SECTION.answers("n 0" + of, () -> States.withTape(length).end(0), 0);
            SECTION.answers("n " + length + of, () -> States.withTape(length).end(length), length);
        }
    }

    private static void answersN() {
        SECTION.sentence("Answers n.");
        Subject x = States.withTape(1060);
        for (int n : new int[] {1060, 1059, 1000, 21, 20, 1, 0}) {
            SECTION.answers("end(" + n + ")", () -> x.end(n), n);
            SECTION.answers("count(3)", () -> x.count(3), n);
        }
        SECTION.throwsOf("what was cut off does not come back", () -> x.end(1), Section.ILLEGAL_ARGUMENT);
    }
}
