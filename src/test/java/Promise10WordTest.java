/** Promise 10, sentence by sentence. */
public final class Promise10WordTest {
    private static final Section SECTION = new Section("Promise 10");

    public static void main(String[] args) {
        eightBytes();
        zerosBehindTheirEnd();
        thereIsNone();
        noneOfThem();
        SECTION.finish();
    }

    private static void eightBytes() {
        SECTION.sentence("8 bytes of KEY and VALUE of RECORD i from j on, the highest first");
        Subject x = States.withTape(400);
        x.append(1, 0, 3);
        for (int j = 0; j <= 392; j++) {
            int at = j;
            SECTION.answers("from " + j + " on", () -> x.word(0, at), Subject.wordAt(j, 400));
        }
        Subject high = new Subject();
        high.feed(0x80FF7F00, -1, Section.LEAST, 0, 0);
        high.append(1, 0, 0);
        SECTION.answers("the highest bit", () -> high.word(0, 0), 0x80FF7F00FFFFFFFFL);
        SECTION.answers("all bits", () -> high.word(0, 4), 0xFFFFFFFF80000000L);
    }

    private static void zerosBehindTheirEnd() {
        SECTION.sentence("zeros behind their end");
        for (int length : new int[] {1, 7, 8, 9, 1000, 1045}) {
            Subject x = new Subject();
            x.layMany(length);
            x.put(1);
            x.put(2, 20);
            for (int j = Math.max(0, length - 9); j < length; j++) {
                int at = j;
                SECTION.answers("of " + length + " from " + j + " on", () -> x.word(0, at), Subject.wordAt(j, length));
            }
        }
        Subject key = States.withTape(5);
        key.append(1, 0, 5);
        SECTION.answers("of a key alone", () -> key.word(0, 2), Subject.wordAt(2, 5));
        Subject full = States.full();
        full.put(255, Subject.HALF);
        SECTION.answers("at the end of a full block", () -> full.word(47, Subject.HALF - 1), 255L << 56);
    }

    private static void thereIsNone() {
        SECTION.sentence("There is none: NoSuchElementException");
        for (int i : new int[] {Section.LEAST, -1, 2040, Section.MOST}) {
            SECTION.refusesInAll("i " + i, States.up(), x -> x.word(i, 0), Section.NO_SUCH_ELEMENT);
        }
        SECTION.refuses("i 0 of none", Subject::new, x -> x.word(0, 0), Section.NO_SUCH_ELEMENT);
        SECTION.refuses("i 23 of 23", States::busy, x -> x.word(23, 0), Section.NO_SUCH_ELEMENT);
        SECTION.answers("i 22 of 23", () -> States.busy().word(22, 29), 61L << 56);
        SECTION.refuses("i 23 of 23, j is none too", States::busy, x -> x.word(23, -1), Section.NO_SUCH_ELEMENT);
    }

    private static void noneOfThem() {
        SECTION.sentence("j is none of them: IndexOutOfBoundsException");
        for (int j : new int[] {Section.LEAST, -1, 30, 31, Section.MOST - 7, Section.MOST}) {
            SECTION.refuses("j " + j + " of 30", States::busy, x -> x.word(22, j), Section.OUT_OF_BOUNDS);
        }
        SECTION.answers("j 29 of 30", () -> States.busy().word(22, 29), 61L << 56);
        SECTION.answers("j 0 of 30", () -> States.busy().word(22, 0) >>> 56, 61);
        for (int j : new int[] {-1, 0, 1}) {
            SECTION.refuses("j " + j + " of no bytes (busy)", States::busy, x -> x.word(0, j), Section.OUT_OF_BOUNDS);
            SECTION.refuses("j " + j + " of no bytes (quiet)", () -> States.quiet(9), x -> x.word(0, j),
                    Section.OUT_OF_BOUNDS);
        }
        for (int length : new int[] {1, 45, 1000, 1045}) {
            Subject x = States.withTape(length);
            x.put(1);
            SECTION.throwsOf("j " + length + " of " + length, () -> x.word(0, length), Section.OUT_OF_BOUNDS);
            SECTION.answers("j " + (length - 1) + " of " + length, () -> x.word(0, length - 1) >>> 56,
                    Subject.byteAt(length - 1));
        }
    }
}
