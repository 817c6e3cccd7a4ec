import java.util.ArrayList;
import java.util.Arrays;
import java.util.Comparator;
import java.util.List;
import java.util.NoSuchElementException;

/**
 * The document's words with lists and objects, without a byte of a chip: what was written wholly is remembered
 * as such. ModelTest compares TornLog with it.
 */
final class Model {
    private static final class Entry {
        private int kind;
        private int moment;
        private int keyLength;
        private byte[] content;
    }

    private static final class Block {
        private int number;
        private int erasings = 0;
        /** 0 if it is not begun, or erased since. */
        private int begun = 0;
        private List<Entry> entries = new ArrayList<>();
    }

    private final List<Block> chip = new ArrayList<>();
    private List<Block> log = new ArrayList<>();
    private Block open = null;
    private byte[] tape = new byte[0];
    private boolean down = false;
    private boolean waits = false;
    private long cutPart;
    private int cutBytes;
    private int beginnings = 0;

    Model() {
        for (int i = 0; i < 24; i++) {
            Block block = new Block();
            block.number = i;
            chip.add(block);
        }
    }

    long feed(int a, int b, int c, int d, int e) {
        needUp();
        byte[] more = new byte[20];
        int[] ints = {a, b, c, d, e};
        for (int i = 0; i < 20; i++) {
            more[i] = (byte) (ints[i / 4] >>> (24 - 8 * (i % 4)));
        }
        return lengthen(more);
    }

    long fill(int v, int n) {
        need(v >= 0 && v <= 255 && n >= 1 && n <= 1000);
        needUp();
        byte[] more = new byte[n];
        Arrays.fill(more, (byte) v);
        return lengthen(more);
    }

    private long lengthen(byte[] more) {
        if (tape.length + more.length > 1060) {
            throw new IndexOutOfBoundsException();
        }
        byte[] longer = Arrays.copyOf(tape, tape.length + more.length);
        System.arraycopy(more, 0, longer, tape.length, more.length);
        tape = longer;
        return tape.length;
    }

    long end(int n) {
        need(n >= 0 && n <= tape.length);
        needUp();
        tape = Arrays.copyOf(tape, n);
        return n;
    }

    long append(int kind, int moment, int k) {
        need(kind >= 1 && kind <= 15 && moment >= 0 && k >= 0 && k <= 45);
        need(tape.length >= k && tape.length <= k + 1000);
        needUp();
        Entry entry = new Entry();
        entry.kind = kind;
        entry.moment = moment;
        entry.keyLength = k;
        entry.content = tape;
        tape = new byte[0];
        if (open == null || used(open) + 9 + entry.content.length > 2040) {
            if (log.size() == 24) {
                throw new IndexOutOfBoundsException();
            }
            beginNew();
        }
        pass();
        open.entries.add(entry);
        return open.entries.size();
    }

    private static int used(Block block) {
        return block.entries.stream().mapToInt(entry -> 9 + entry.content.length).sum();
    }

    private void beginNew() {
        Block block = chip.stream().filter(b -> !log.contains(b))
                .min(Comparator.<Block>comparingInt(b -> b.erasings).thenComparingInt(b -> b.number)).get();
        block.erasings++;
        if (!(waits && cutPart == 0 && cutBytes == 0)) {
            block.begun = 0;
        }
        pass();
        block.entries = new ArrayList<>();
        pass();
        block.begun = ++beginnings;
        log.add(block);
        open = block;
    }

    /** A part comes: it is done wholly, or the power fails in it. */
    private void pass() {
        if (waits && cutPart == 0) {
            waits = false;
            down = true;
            throw new IllegalStateException();
        }
        cutPart--;
    }

    long retire(int i) {
        need(i >= 0 && i <= 23);
        needUp();
        if (i >= log.size()) {
            throw new NoSuchElementException();
        }
        if (log.remove(i) == open) {
            open = null;
        }
        return log.size();
    }

    long cut(int n, int b) {
        need(n >= 0 && b >= 0);
        long waited = waits ? 1 : 0;
        waits = true;
        cutPart = n;
        cutBytes = b;
        return waited;
    }

    long mount() {
        down = false;
        tape = new byte[0];
        open = null;
        log = new ArrayList<>(chip);
        log.removeIf(block -> block.begun == 0);
        log.sort(Comparator.comparingInt(block -> block.begun));
        return count(0);
    }

    long record(int i, int what) {
        need(what >= 0 && what <= 4);
        needUp();
        Entry entry = entry(i);
        long[] answers = {entry.kind, entry.moment, entry.keyLength, entry.content.length - entry.keyLength, 0};
        while (what == 4 && !log.get((int) answers[4]).entries.contains(entry)) {
            answers[4]++;
        }
        return answers[what];
    }

    long word(int i, int j) {
        needUp();
        byte[] content = entry(i).content;
        if (j < 0 || j >= content.length) {
            throw new IndexOutOfBoundsException();
        }
        byte[] eight = Arrays.copyOfRange(content, j, j + 8);
        return java.nio.ByteBuffer.wrap(eight).getLong();
    }

    private Entry entry(int i) {
        List<Entry> all = new ArrayList<>();
        log.forEach(block -> all.addAll(block.entries));
        if (i < 0 || i >= all.size()) {
            throw new NoSuchElementException();
        }
        return all.get(i);
    }

    long count(int what) {
        need(what >= 0 && what <= 4);
        if (what <= 1) {
            needUp();
        }
        long records = log.stream().mapToInt(block -> block.entries.size()).sum();
        long[] answers = {records, log.size(), down ? 1 : 0, tape.length, 0};
        return answers[what];
    }

    private static void need(boolean right) {
        if (!right) {
            throw new IllegalArgumentException();
        }
    }

    private void needUp() {
        if (down) {
            throw new IllegalStateException();
        }
    }
}
