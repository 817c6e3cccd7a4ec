/** The limit that the section "What it is" tells. */
public final class WhatItIsTest {
    private static final Section SECTION = new Section("What it is");

    public static void main(String[] args) {
        mostRecords();
        mostBlocks();
        SECTION.finish();
    }

    private static void mostRecords() {
        SECTION.sentence("An object is used for at most 512 calls after it has been made (records)");
        Subject x = new Subject();
        for (int i = 0; i < Subject.MOST_CALLS - 1; i++) {
            SECTION.answers("append " + i, () -> x.append(1, 0, 0), i % 226 + 1);
        }
        SECTION.answers("the 512th call: mount", x::mount, Subject.MOST_CALLS - 1);
    }

    private static void mostBlocks() {
        SECTION.sentence("An object is used for at most 512 calls after it has been made (new blocks)");
        Subject x = new Subject();
        for (int i = 0; i < Subject.MOST_CALLS / 2; i++) {
            SECTION.answers("new block " + i, () -> x.append(1, 0, 0), 1);
            SECTION.answers("new block " + i + " retired", () -> x.retire(0), 0);
        }
        SECTION.answers("calls on it", x::calls, Subject.MOST_CALLS);
    }
}
