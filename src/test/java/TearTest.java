/**
 * Cuts every part at every byte, with bytes in tape, moment and older records that could pass for anything
 * that the chip uses as a mark: what was cut is never there, and what was whole before always is.
 */
public final class TearTest {
    private static final int[] BYTES = {0, 1, 90, 127, 165, 254, 255};
    private static final Check CHECK = new Check();

    public static void main(String[] args) {
        for (int v : BYTES) {
            for (int size : new int[] {0, 1, 7, 255, 300}) {
                cutRecords(v, size, Math.min(size, 5));
                cutRecords(v, size, Math.min(size, 45));
            }
            cutBeginnings(v);
            cutErasings(v);
        }
        CHECK.finish();
    }

    private static int momentOf(int v) {
        return (v << 24 | v << 16 | v << 8 | v) & Integer.MAX_VALUE;
    }

    private static long put(TornLog x, int v, int size, int k) {
        for (int left = size; left > 0; left -= 1000) {
            x.fill(v, Math.min(left, 1000));
        }
        return x.append(1 + v % 15, momentOf(v), k);
    }

    private static void cutRecords(int v, int size, int k) {
        for (int b = 0; b <= size + 10; b++) {
            String name = "record of " + size + " bytes " + v + ", key " + k + ", cut at " + b;
            TornLog x = new TornLog();
            put(x, v, size, k);
            x.cut(0, b);
            CHECK.refusedAsDown(name, () -> put(x, v, size, k));
            CHECK.due(name + ": the whole one", x::mount, 1);
            CHECK.due(name + ": its moment", () -> x.record(0, 1), momentOf(v));
            CHECK.due(name + ": its length", () -> x.record(0, 2) + x.record(0, 3), size);
            x.cut(2, b);
            CHECK.refusedAsDown(name + " in a new block", () -> put(x, v, size, k));
            CHECK.due(name + ": the whole one, still", x::mount, 1);
            CHECK.due(name + ": an empty block", () -> x.count(1), 2);
            CHECK.due(name + ": all was erased before", () -> x.count(4), 0);
        }
    }

    /** All blocks full of records of bytes v, block 0 retired, so that it is the next to be taken. */
    private static TornLog full(int v) {
        TornLog x = new TornLog();
        for (int i = 0; i < 48; i++) {
            put(x, v, 1011, 11);
        }
        x.retire(0);
        return x;
    }

    private static void cutBeginnings(int v) {
        TornLog x = full(v);
        for (int b = 0; b <= 7; b++) {
            String name = "beginning cut at " + b + " on bytes " + v;
            x.cut(1, b);
            CHECK.refusedAsDown(name, () -> put(x, v, 20, 3));
            CHECK.due(name + ": the others", x::mount, 46);
            CHECK.due(name + ": 23 blocks", () -> x.count(1), 23);
        }
        CHECK.due("behind beginnings cut", () -> put(x, v, 20, 3), 1);
        CHECK.due("behind beginnings cut: all", x::mount, 47);
        CHECK.due("behind beginnings cut: all was erased before", () -> x.count(4), 0);
    }

    private static void cutErasings(int v) {
        for (int b = 0; b <= 2049; b++) {
            String name = "erasing cut at " + b + " on bytes " + v;
            TornLog x = full(v);
            int at = b;
            x.cut(0, at);
            CHECK.refusedAsDown(name, () -> put(x, v, 20, 3));
            CHECK.due(name + ": what is found", x::mount, at == 0 ? 48 : 46);
            if (at == 0) {
                x.retire(0);
            }
            x.cut(0, 0);
            CHECK.refusedAsDown(name + ", then undone", () -> put(x, v, 20, 3));
            CHECK.due(name + ", then undone: the same", x::mount, at == 0 ? 48 : 46);
        }
    }
}
