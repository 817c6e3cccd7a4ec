import java.util.ArrayList;
import java.util.List;

/**
 * Uses an object up to tell all that can be seen of its state: what is in the log and on the tape, whether a block
 * is open, when a CUT comes, what is on the chip, and which blocks were erased more often.
 */
final class Probe {
    private static final int MOST_RECORDS_SEEN = 30;

    private final Subject x;
    private final List<String> rows = new ArrayList<>();

    private Probe(Subject x) {
        this.x = x;
    }

    static List<String> of(Subject x) {
        Probe probe = new Probe(x);
        probe.look();
        probe.readTape();
        probe.see("mount", x::mount);
        probe.look();
        probe.beginAllBlocks();
        probe.takeHalfOfAll();
        return probe.rows;
    }

    private String see(String call, Check.Call answer) {
        String outcome = Check.outcome(answer);
        rows.add(call + " answers " + outcome);
        return outcome;
    }

    private void look() {
        for (int what = 0; what <= 4; what++) {
            int asked = what;
            see("count(" + what + ")", () -> x.count(asked));
        }
        for (int i = 0; i < MOST_RECORDS_SEEN; i++) {
            int number = i;
            if (!see("record(" + i + ", 1)", () -> x.record(number, 1)).matches("\\d+")) {
                break;
            }
            see("record(" + i + ", 3)", () -> x.record(number, 3));
        }
    }

    /** Its bytes can be seen only as those of a record. */
    private void readTape() {
        int length = x.count(3);
        see("append of the tape", () -> x.append(9, 9999, Math.max(0, Math.min(length, 1045) - 1000)));
        int last = Check.outcome(() -> x.count(0)).matches("\\d+") ? x.count(0) - 1 : 0;
        for (int j = 0; j < length; j += 1 + length / 8) {
            int at = j;
            see("word(" + last + ", " + j + ")", () -> x.word(last, at));
        }
    }

    private void beginAllBlocks() {
        for (int i = 0; i < 26 && x.count(1) < 24; i++) {
            int moment = 10000 + i;
            see("append", () -> x.append(1, moment, 0));
            see("mount", x::mount);
        }
    }

    /** The blocks that were erased least often go first: their records are not there any more. */
    private void takeHalfOfAll() {
        for (int i = 0; i < 24; i++) {
            see("retire(0)", () -> x.retire(0));
        }
        for (int i = 0; i < 12; i++) {
            int moment = 20000 + i;
            see("append", () -> x.append(1, moment, 0));
            see("retire(0)", () -> x.retire(0));
        }
        see("mount", x::mount);
        rows.add(x.moments());
    }
}
