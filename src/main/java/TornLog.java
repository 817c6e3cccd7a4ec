import java.util.NoSuchElementException;

/**
 * A log on a flash chip whose power may fail at any byte.
 *
 * What is on the chip alone tells, after a failure, which blocks and records are whole: each part that is
 * written ends with a byte that an erased chip does not have, so a part that was cut never looks whole.
 */
public final class TornLog {
    private static final int BLOCKS = 24;
    private static final int BLOCK_BYTES = 2048;
    private static final int TAPE_BYTES = 1060;
    private static final int FED_BYTES = 20;
    private static final int MOST_FILLED = 1000;
    private static final int MOST_BYTE = 255;
    private static final int MOST_KIND = 15;
    private static final int MOST_KEY = 45;
    private static final int MOST_VALUE = 1000;
    private static final int WORD_BYTES = 8;

    /** A beginning: MARK, when the block was begun (4 bytes), MARK. */
    private static final int BEGINNING_BYTES = 6;
    private static final int ORDER_AT = 1;
    private static final int ROOM_BYTES = 2040;
    private static final int RECORDS_END = BEGINNING_BYTES + ROOM_BYTES;

    /** A record: kind (1), moment (4), length of key (1), of value (2), key, value, MARK. */
    private static final int RECORD_EXTRA = 9;
    private static final int MOMENT_AT = 1;
    private static final int KEY_LENGTH_AT = 5;
    private static final int VALUE_LENGTH_AT = 6;
    private static final int CONTENT_AT = 8;
    private static final int MOST_RECORDS = ROOM_BYTES / RECORD_EXTRA;

    private static final int ERASED = 255;
    /** Any byte but ERASED: the first that an erasing takes away, the last that a writing brings. */
    private static final int MARK = 90;

    private final Bytes tape;
    private final Log log;
    private boolean down;

    public TornLog() {
        tape = new Bytes(TAPE_BYTES);
        log = new Log();
        down = false;
    }

    public int feed(int a, int b, int c, int d, int e) throws IllegalStateException, IndexOutOfBoundsException {
        refuseWhenDown();
        refuseBeyondTape(FED_BYTES);
        tape.addInt(a);
        tape.addInt(b);
        tape.addInt(c);
        tape.addInt(d);
        tape.addInt(e);
        return tape.length;
    }

    public int fill(int v, int n) throws IllegalArgumentException, IllegalStateException, IndexOutOfBoundsException {
        refuseOutside(v, 0, MOST_BYTE);
        refuseOutside(n, 1, MOST_FILLED);
        refuseWhenDown();
        refuseBeyondTape(n);
        for (int i = 0; i < n; i++) {
            tape.add(v);
        }
        return tape.length;
    }

    public int end(int n) throws IllegalArgumentException, IllegalStateException {
        refuseOutside(n, 0, tape.length);
        refuseWhenDown();
        tape.length = n;
        return n;
    }

    public int append(int kind, int moment, int k)
            throws IllegalArgumentException, IllegalStateException, IndexOutOfBoundsException {
        refuseOutside(kind, 1, MOST_KIND);
        refuseNegative(moment);
        refuseOutside(k, 0, MOST_KEY);
        refuseOutside(tape.length, k, k + MOST_VALUE);
        refuseWhenDown();
        boolean needsBlock = !log.hasRoom(RECORD_EXTRA + tape.length);
        if (needsBlock && log.length == BLOCKS) {
            tape.length = 0;
            throw new IndexOutOfBoundsException("the log has all blocks");
        }
        boolean written = (!needsBlock || log.takeBlock()) && log.writeRecord(kind, moment, k, tape);
        tape.length = 0;
        if (!written) {
            down = true;
            throw new IllegalStateException("the power fails");
        }
        return log.recordsOfLast();
    }

    public int retire(int i) throws IllegalArgumentException, IllegalStateException, NoSuchElementException {
        refuseOutside(i, 0, BLOCKS - 1);
        refuseWhenDown();
        if (i >= log.length) {
            throw new NoSuchElementException("no such block");
        }
        log.drop(i);
        return log.length;
    }

    public int cut(int n, int b) throws IllegalArgumentException {
        refuseNegative(n);
        refuseNegative(b);
        boolean waited = log.cut.waits;
        log.cut.set(n, b);
        return waited ? 1 : 0;
    }

    public int mount() {
        down = false;
        tape.length = 0;
        log.findOnChip();
        return log.records();
    }

    public int record(int i, int what)
            throws IllegalArgumentException, IllegalStateException, NoSuchElementException {
        refuseOutside(what, 0, 4);
        refuseWhenDown();
        int at = addressOf(i);
        switch (what) {
            case 0:
                return log.number(at, 1);
            case 1:
                return log.number(at + MOMENT_AT, 4);
            case 2:
                return log.number(at + KEY_LENGTH_AT, 1);
            case 3:
                return log.number(at + VALUE_LENGTH_AT, 2);
            default:
                return at / BLOCK_BYTES;
        }
    }

    public long word(int i, int j) throws IllegalStateException, NoSuchElementException, IndexOutOfBoundsException {
        refuseWhenDown();
        int at = addressOf(i);
        int size = log.number(at + KEY_LENGTH_AT, 1) + log.number(at + VALUE_LENGTH_AT, 2);
        if (j < 0 || j >= size) {
            throw new IndexOutOfBoundsException("no such byte of the record");
        }
        long word = 0;
        for (int b = j; b < j + WORD_BYTES; b++) {
            word = word << 8 | (b < size ? log.number(at + CONTENT_AT + b, 1) : 0);
        }
        return word;
    }

    public int count(int what) throws IllegalArgumentException, IllegalStateException {
        refuseOutside(what, 0, 4);
        switch (what) {
            case 0:
                refuseWhenDown();
                return log.records();
            case 1:
                refuseWhenDown();
                return log.length;
            case 2:
                return down ? 1 : 0;
            case 3:
                return tape.length;
            default:
                return log.overwritten();
        }
    }

    private static void refuseOutside(int number, int least, int most) {
        if (number < least || number > most) {
            throw new IllegalArgumentException("out of range");
        }
    }

    private static void refuseNegative(int number) {
        if (number < 0) {
            throw new IllegalArgumentException("negative");
        }
    }

    private void refuseWhenDown() {
        if (down) {
            throw new IllegalStateException("the power failed");
        }
    }

    private void refuseBeyondTape(int more) {
        if (tape.length + more > TAPE_BYTES) {
            throw new IndexOutOfBoundsException("the tape is full");
        }
    }

    private int addressOf(int i) {
        int at = log.find(i);
        if (at < 0) {
            throw new NoSuchElementException("no such record");
        }
        return at;
    }

    /** A row of bytes that grows up to its limit. */
    private static final class Bytes {
        private final byte[] row;
        private int length;

        Bytes(int limit) {
            row = new byte[limit];
            length = 0;
        }

        void add(int value) {
            if (length < row.length) {
                row[length] = (byte) value;
                length++;
            }
        }

        void addInt(int value) {
            add(value >> 24);
            add(value >> 16);
            add(value >> 8);
            add(value);
        }

        void addAll(Bytes other) {
            for (int i = 0; i < other.length; i++) {
                add(other.get(i));
            }
        }

        int get(int i) {
            return i >= 0 && i < length ? row[i] & MOST_BYTE : 0;
        }
    }

    /** The failure of the power that is to come, if one waits. */
    private static final class Cut {
        private boolean waits;
        private int parts;
        private int bytes;

        Cut() {
            waits = false;
            parts = 0;
            bytes = 0;
        }

        void set(int n, int b) {
            waits = true;
            parts = n;
            bytes = b;
        }

        /** How many bytes of the part that comes now are done: all of them, unless the power fails in it. */
        int bytesDone(int size) {
            if (!waits) {
                return size;
            }
            if (parts > 0) {
                parts--;
                return size;
            }
            waits = false;
            return Math.min(bytes, size - 1);
        }
    }

    /** A block of the chip. */
    private static final class Block {
        private byte[] cells;
        /** Beside the cells, because an erasing counts also if none of its bytes was done. */
        private int erasings;
        private int overwritten;
        private int records;
        private int recordsEnd;

        Block() {
            // Many blocks are never taken: the cells come with the first erasing.
            cells = new byte[0];
            erasings = 0;
            overwritten = 0;
            records = 0;
            recordsEnd = BEGINNING_BYTES;
        }

        /** From the first byte on, so that a beginning is gone with the first byte done. */
        boolean erase(Cut cut) {
            if (cells.length == 0) {
                cells = new byte[BLOCK_BYTES];
            }
            erasings++;
            int done = cut.bytesDone(BLOCK_BYTES);
            for (int i = 0; i < done; i++) {
                cells[i] = (byte) ERASED;
            }
            return done == BLOCK_BYTES;
        }

        boolean write(int at, Bytes part, Cut cut) {
            int done = cut.bytesDone(part.length);
            for (int i = 0; i < done; i++) {
                writeCell(at + i, part.get(i));
            }
            return done == part.length;
        }

        private void writeCell(int at, int value) {
            if (at < 0 || at >= cells.length) {
                return;
            }
            if (cell(at) != ERASED) {
                overwritten++;
            }
            cells[at] = (byte) value;
        }

        private int cell(int at) {
            return at >= 0 && at < cells.length ? cells[at] & MOST_BYTE : ERASED;
        }

        /** The number in some bytes, the highest first. */
        int number(int at, int bytes) {
            int number = 0;
            for (int i = 0; i < bytes; i++) {
                number = number << 8 | cell(at + i);
            }
            return number;
        }

        boolean isBegun() {
            return cell(0) == MARK && cell(BEGINNING_BYTES - 1) == MARK;
        }

        boolean hasRoom(int size) {
            return recordsEnd + size <= RECORDS_END;
        }

        void findRecords() {
            records = 0;
            recordsEnd = BEGINNING_BYTES;
            for (int i = 0; i < MOST_RECORDS && nextIsWhole(); i++) {
                recordsEnd += sizeOf(recordsEnd);
                records++;
            }
        }

        /** Behind the byte where a record was cut all is erased: no MARK stands wherever its lengths point to. */
        private boolean nextIsWhole() {
            int size = sizeOf(recordsEnd);
            return hasRoom(size) && cell(recordsEnd + size - 1) == MARK;
        }

        private int sizeOf(int at) {
            return RECORD_EXTRA + number(at + KEY_LENGTH_AT, 1) + number(at + VALUE_LENGTH_AT, 2);
        }

        /** Where record i of this block stands; i is less than records. */
        int placeOf(int i) {
            int at = BEGINNING_BYTES;
            for (int before = 0; before < i; before++) {
                at += sizeOf(at);
            }
            return at;
        }
    }

    /** The chip, and the row of its blocks that are the log. */
    private static final class Log {
        private final Block[] chip;
        private final int[] row;
        private int length;
        private boolean open;
        private int begun;
        private final Cut cut;
        private final Bytes part;

        Log() {
            chip = new Block[BLOCKS];
            for (int i = 0; i < BLOCKS; i++) {
                chip[i] = new Block();
            }
            row = new int[BLOCKS];
            length = 0;
            open = false;
            begun = 0;
            cut = new Cut();
            part = new Bytes(RECORD_EXTRA + MOST_KEY + MOST_VALUE);
        }

        private Block block(int i) {
            return chip[row[i]];
        }

        boolean hasRoom(int size) {
            return open && length > 0 && block(length - 1).hasRoom(size);
        }

        int recordsOfLast() {
            return length > 0 ? block(length - 1).records : 0;
        }

        int records() {
            int records = 0;
            for (int i = 0; i < length; i++) {
                records += block(i).records;
            }
            return records;
        }

        int overwritten() {
            int overwritten = 0;
            for (int i = 0; i < BLOCKS; i++) {
                overwritten += chip[i].overwritten;
            }
            return overwritten;
        }

        /** A new last block, open; false if the power failed. */
        boolean takeBlock() {
            int number = leastErased();
            if (number < 0 || !chip[number].erase(cut) || !writeBeginning(chip[number])) {
                return false;
            }
            chip[number].findRecords();
            enter(number);
            open = true;
            return true;
        }

        private int leastErased() {
            int least = -1;
            for (int i = 0; i < BLOCKS; i++) {
                if (!holds(i) && (least < 0 || chip[i].erasings < chip[least].erasings)) {
                    least = i;
                }
            }
            return least;
        }

        private boolean holds(int number) {
            for (int i = 0; i < length; i++) {
                if (row[i] == number) {
                    return true;
                }
            }
            return false;
        }

        private boolean writeBeginning(Block block) {
            begun++;
            part.length = 0;
            part.add(MARK);
            part.addInt(begun);
            part.add(MARK);
            return block.write(0, part, cut);
        }

        /** Into the last block, which has room; false if the power failed. */
        boolean writeRecord(int kind, int moment, int k, Bytes tape) {
            if (!hasRoom(RECORD_EXTRA + tape.length)) {
                return false;
            }
            int valueLength = tape.length - k;
            part.length = 0;
            part.add(kind);
            part.addInt(moment);
            part.add(k);
            part.add(valueLength >> 8);
            part.add(valueLength);
            part.addAll(tape);
            part.add(MARK);
            Block last = block(length - 1);
            if (!last.write(last.recordsEnd, part, cut)) {
                return false;
            }
            last.recordsEnd += part.length;
            last.records++;
            return true;
        }

        /** Block i is none of the log any more; its cells stay as they are. */
        void drop(int i) {
            length--;
            for (int at = i; at < length; at++) {
                row[at] = row[at + 1];
            }
            if (i == length) {
                open = false;
            }
        }

        void findOnChip() {
            length = 0;
            open = false;
            for (int i = 0; i < BLOCKS; i++) {
                if (chip[i].isBegun()) {
                    chip[i].findRecords();
                    enter(i);
                }
            }
        }

        /** A begun block comes into the row, behind all that were begun before it. */
        private void enter(int number) {
            int order = chip[number].number(ORDER_AT, 4);
            int at = length;
            while (at > 0 && block(at - 1).number(ORDER_AT, 4) > order) {
                row[at] = row[at - 1];
                at--;
            }
            row[at] = number;
            length++;
        }

        /** Where record i is: the number of its block in the log times BLOCK_BYTES, and its place there; or -1. */
        int find(int i) {
            if (i < 0) {
                return -1;
            }
            int left = i;
            for (int at = 0; at < length; at++) {
                Block block = block(at);
                if (left < block.records) {
                    return at * BLOCK_BYTES + block.placeOf(left);
                }
                left -= block.records;
            }
            return -1;
        }

        int number(int address, int bytes) {
            return block(address / BLOCK_BYTES).number(address % BLOCK_BYTES, bytes);
        }
    }
}
