/** Promise 12, sentence by sentence. */
public final class Promise12OrderAndLimitsTest {
    private static final Section SECTION = new Section("Promise 12");

    public static void main(String[] args) {
        cutErasingCounts();
        alsoIfNoByteWasDone();
        hasWhatItHad();
        SECTION.finish();
    }

    /** All blocks are begun; the erasing of block 3 was cut when b bytes were done; not mounted. */
    private static Subject cutAt(int b) {
        Subject x = States.begun(24);
        x.retire(3);
        x.cut(0, b);
        Check.outcome(() -> x.append(1, 100, 0));
        return x;
    }

    /** Whether a record with this moment is in the log. */
    private static String has(Subject x, int moment) {
        return Boolean.toString((" " + x.moments() + " ").contains(" " + moment + " "));
    }

    private static void cutErasingCounts() {
        SECTION.sentence("An erasing that is cut counts for \"erased least often\"");
        for (int b : new int[] {1, 2, 2047, 2048, Section.MOST}) {
            Subject x = cutAt(b);
            SECTION.answers("cut at " + b + ": the block is not there", x::mount, 23);
            x.retire(9);
            x.append(1, 101, 0);
            SECTION.answers("cut at " + b + ": another, erased less often, was taken", x::mount, 23);
            SECTION.same("cut at " + b + ": that was number 10", has(x, 10), "false");
            x.append(1, 102, 0);
            SECTION.answers("cut at " + b + ": then it is taken itself", x::mount, 24);
        }
        Subject whole = States.begun(24);
        whole.retire(3);
        whole.append(1, 100, 0);
        whole.mount();
        whole.retire(23);
        whole.retire(9);
        whole.append(1, 101, 0);
        whole.mount();
        SECTION.same("as one that is whole: the other was taken", has(whole, 10) + has(whole, 100), "falsetrue");
        Subject none = States.begun(24);
        none.retire(10);
        none.retire(3);
        none.append(1, 101, 0);
        none.mount();
        SECTION.same("without it the least number was taken", has(none, 10) + has(none, 3), "truefalse");
    }

    private static void alsoIfNoByteWasDone() {
        SECTION.sentence("also if none of its bytes was done .. but counts as erased once more");
        Subject x = cutAt(0);
        x.mount();
        x.retire(10);
        x.retire(3);
        x.append(1, 101, 0);
        x.mount();
        SECTION.same("the other was taken", has(x, 10) + has(x, 3), "falsetrue");
        Subject twice = cutAt(0);
        twice.mount();
        twice.retire(3);
        twice.cut(0, 0);
        Check.outcome(() -> twice.append(1, 100, 0));
        twice.mount();
        twice.retire(10);
        twice.append(1, 101, 0);
        twice.mount();
        twice.retire(23);
        twice.retire(3);
        twice.append(1, 102, 0);
        twice.mount();
        SECTION.same("twice undone, three times in all: one erased twice was taken", has(twice, 101) + has(twice, 3),
                "falsetrue");
        Subject fresh = States.begun(23);
        fresh.takeDown();
        fresh.mount();
        fresh.retire(0);
        fresh.append(1, 100, 0);
        fresh.mount();
        SECTION.same("a block that was never begun counts as erased once: of two such the least number was taken",
                has(fresh, 0), "false");
        Subject spared = States.begun(23);
        spared.retire(0);
        spared.append(1, 100, 0);
        spared.mount();
        SECTION.same("without it that block was taken, not erased yet", has(spared, 0), "true");
    }

    private static void hasWhatItHad() {
        SECTION.sentence("b 0: the BLOCK has what it had");
        Subject undone = cutAt(0);
        SECTION.answers("b 0: it comes back", undone::mount, 24);
        SECTION.answers("b 0: with its record", () -> undone.record(3, 1), 3);
        SECTION.answers("b 0: where it was begun", () -> undone.record(3, 4), 3);
        Subject torn = cutAt(1);
        SECTION.answers("b 1: it does not", torn::mount, 23);
        SECTION.answers("b 1: the next one is in its place", () -> torn.record(3, 1), 4);
        torn.cut(0, 0);
        Check.outcome(() -> torn.append(1, 100, 0));
        SECTION.answers("b 1, then b 0: it has what it had, which was no beginning", torn::mount, 23);
    }
}
