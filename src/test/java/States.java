import java.util.LinkedHashMap;
import java.util.Map;
import java.util.function.Supplier;

/** States of an object from which tests start; each call makes a new object. */
final class States {
    private States() {
    }

    /** n blocks are the log, each with one empty record whose moment is its number; none is open. */
    static Subject begun(int n) {
        Subject x = new Subject();
        for (int i = 0; i < n; i++) {
            x.append(1, i, 0);
            x.mount();
        }
        return x;
    }

    /** As begun, but the last block is open. */
    static Subject open(int n) {
        Subject x = begun(n - 1);
        x.append(1, n - 1, 0);
        return x;
    }

    static Subject withTape(int n) {
        Subject x = new Subject();
        x.layMany(n);
        return x;
    }

    /**
     * Something of all that a state can have: 22 blocks, the last one open with two records, a retired block and one
     * whose erasing was cut, bytes on the tape, a CUT that waits.
     */
    static Subject busy(int tape) {
        Subject x = begun(24);
        x.retire(4);
        x.retire(1);
        x.cut(0, 1);
        Check.outcome(() -> x.append(2, 50, 0));
        x.mount();
        x.retire(5);
        x.retire(2);
        x.put(60, 700);
        x.put(61, 30);
        x.layMany(tape);
        x.cut(6, 3);
        return x;
    }

    static Subject busy() {
        return busy(57);
    }

    /** Little of all that: three blocks, none open, no CUT that waits, but bytes on the tape. */
    static Subject quiet(int tape) {
        Subject x = begun(3);
        x.layMany(tape);
        return x;
    }

    /** All 24 blocks are the log, with two records each but the last, which is open and has room for one more. */
    static Subject full() {
        Subject x = new Subject();
        for (int i = 0; i < 47; i++) {
            x.put(i, Subject.HALF);
        }
        return x;
    }

    /** All 24 blocks are the log; the last is open and has one record, of half of its bytes. */
    static Subject almostFull() {
        Subject x = begun(23);
        x.put(23, Subject.HALF);
        return x;
    }

    /** All 24 blocks are the log, none is open; something is on the tape and a CUT waits. */
    static Subject closed() {
        Subject x = begun(24);
        x.layMany(57);
        x.cut(3, 3);
        return x;
    }

    /** The power failed in a record behind others; another CUT waits. */
    static Subject down() {
        Subject x = busy();
        x.end(0);
        x.takeDown();
        x.cut(4, 0);
        return x;
    }

    /** The power failed in the first erasing of all. */
    static Subject downAtOnce() {
        Subject x = new Subject();
        x.takeDown();
        return x;
    }

    /** States in which a call with wrong numbers is refused and must leave all as it is. */
    static Map<String, Supplier<Subject>> all() {
        Map<String, Supplier<Subject>> all = new LinkedHashMap<>(up());
        all.put("down", States::down);
        all.put("down at once", States::downAtOnce);
        return all;
    }

    /** Those in which the log is not down. */
    static Map<String, Supplier<Subject>> up() {
        Map<String, Supplier<Subject>> up = new LinkedHashMap<>();
        up.put("new", Subject::new);
        up.put("open", () -> open(3));
        up.put("busy", States::busy);
        up.put("closed", States::closed);
        return up;
    }
}
