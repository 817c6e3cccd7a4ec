/** A TornLog that is used for as many calls as the document allows, with runs of calls that tests need often. */
final class Subject {
    static final int MOST_CALLS = 512;
    /** Two records of so many bytes fill a block wholly: 2 * (9 + 1011) is 2040. */
    static final int HALF = 1011;

    private final TornLog log = new TornLog();
    private int calls = 0;

    private TornLog used() {
        calls++;
        if (calls > MOST_CALLS) {
            throw new AssertionError("a test made more than 512 calls on one object");
        }
        return log;
    }

    int calls() {
        return calls;
    }

    int feed(int a, int b, int c, int d, int e) {
        return used().feed(a, b, c, d, e);
    }

    int fill(int v, int n) {
        return used().fill(v, n);
    }

    int end(int n) {
        return used().end(n);
    }

    int append(int kind, int moment, int k) {
        return used().append(kind, moment, k);
    }

    int retire(int i) {
        return used().retire(i);
    }

    int cut(int n, int b) {
        return used().cut(n, b);
    }

    int mount() {
        return used().mount();
    }

    int record(int i, int what) {
        return used().record(i, what);
    }

    long word(int i, int j) {
        return used().word(i, j);
    }

    int count(int what) {
        return used().count(what);
    }

    /** n bytes v come to the tape, however many. */
    void lay(int v, int n) {
        for (int left = n; left > 0; left -= 1000) {
            fill(v, Math.min(left, 1000));
        }
    }

    /** n bytes come to the empty tape that are not alike: byteAt tells which. */
    void layMany(int n) {
        for (int at = 0; at < n; at += 20) {
            feed(intAt(at), intAt(at + 4), intAt(at + 8), intAt(at + 12), intAt(at + 16));
        }
        end(n);
    }

    /** The byte that layMany puts at i. */
    static int byteAt(int i) {
        return i * 37 + i / 256 + 129 & 255;
    }

    private static int intAt(int i) {
        return byteAt(i) << 24 | byteAt(i + 1) << 16 | byteAt(i + 2) << 8 | byteAt(i + 3);
    }

    /** The 8 bytes from j on of a record of n bytes that layMany laid, zeros behind them. */
    static long wordAt(int j, int n) {
        long word = 0;
        for (int i = j; i < j + 8; i++) {
            word = word << 8 | (i < n ? byteAt(i) : 0);
        }
        return word;
    }

    /** A record of kind 1 with what is on the tape; as much of it is the value as can be. */
    int put(int moment) {
        return append(1, moment, Math.max(0, count(3) - 1000));
    }

    /** A record of n bytes, all of them the moment's lowest byte. */
    int put(int moment, int n) {
        lay(moment & 255, n);
        return append(1, moment, Math.max(0, n - 1000));
    }

    /** The power fails in the part that comes next, before any byte of it. */
    void takeDown() {
        cut(0, 0);
        Check.outcome(() -> append(1, 0, 0));
    }

    /** The moments of all records, in order. */
    String moments() {
        StringBuilder text = new StringBuilder();
        int records = count(0);
        for (int i = 0; i < records; i++) {
            text.append(record(i, 1)).append(' ');
        }
        return text.toString().trim();
    }
}
