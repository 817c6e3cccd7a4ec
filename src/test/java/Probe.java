import java.util.ArrayList;
import java.util.List;

/**
 * Uses an object up to tell all that can be seen of its state: what is in the log and on the tape, whether a block
 * is open, when a CUT comes, what is on the chip, and which blocks were erased more often.
 *
 * As far as it can it makes no call that is refused: those could change what it is to tell.
 */
final class Probe {
    private static final int MOST_PARTS_AWAITED = 10;

    private final Subject x;
    private final List<String> rows = new ArrayList<>();

    private Probe(Subject x) {
        this.x = x;
    }

    static List<String> of(Subject x) {
        Probe probe = new Probe(x);
        probe.look();
        probe.readTape();
        probe.mount();
        probe.awaitCut();
        probe.mount();
        probe.beginAllBlocks();
        probe.takeHalfOfAll(30000);
        probe.takeHalfOfAll(40000);
        return probe.rows;
    }

    private boolean isDown() {
        return x.count(2) == 1;
    }

    private void see(String call, Check.Call answer) {
        rows.add(call + " answers " + Check.outcome(answer));
    }

    private void mount() {
        see("mount", x::mount);
        look();
    }

    private void append(int moment) {
        see("append", () -> x.append(1, moment, 0));
    }

    private void look() {
        for (int what = isDown() ? 2 : 0; what <= 4; what++) {
            int asked = what;
            see("count(" + what + ")", () -> x.count(asked));
        }
        if (!isDown()) {
            rows.add("moments " + x.moments());
        }
    }

    /** Its bytes can be seen only as those of a record. */
    private void readTape() {
        int length = x.count(3);
        if (isDown()) {
            return;
        }
        if (length > 1045) {
            x.end(1045);
        }
        see("append of the tape", () -> x.append(9, 9999, Math.max(0, Math.min(length, 1045) - 1000)));
        int last = isDown() ? -1 : x.count(0) - 1;
        for (int j = 0; last >= 0 && j < length; j += 1 + length / 5) {
            int at = j;
            see("word(" + last + ", " + j + ")", () -> x.word(last, at));
        }
    }

    private void awaitCut() {
        if (x.count(1) > 0) {
            see("retire(0)", () -> x.retire(0));
        }
        for (int i = 0; i < MOST_PARTS_AWAITED && !isDown(); i++) {
            append(10000 + i);
        }
    }

    private void beginAllBlocks() {
        for (int i = 0; i < 24 && x.count(1) < 24; i++) {
            append(20000 + i);
            see("mount", x::mount);
        }
    }

    /** The blocks that were erased least often go first: their records are not there any more. */
    private void takeHalfOfAll(int firstMoment) {
        for (int i = 0; i < 24; i++) {
            x.retire(0);
        }
        for (int i = 0; i < 12; i++) {
            append(firstMoment + i);
            x.retire(0);
        }
        see("mount", x::mount);
        rows.add("moments " + x.moments());
    }
}
