/** Each promise of the document: ordinary inputs, the edges that it names, and wrong inputs. */
public final class PromisesTest {
    private static final int MOST = Integer.MAX_VALUE;
    private static final int LEAST = Integer.MIN_VALUE;
    /** Two records of this length fill a block wholly: 2 * (9 + 1011) is 2040. */
    private static final int HALF = 1011;

    private static final Check CHECK = new Check();

    public static void main(String[] args) {
        newObject();
        feed();
        fill();
        end();
        append();
        appendFillsBlocks();
        appendIntoFullLog();
        retire();
        retireOfTheLastLeavesNoneOpen();
        cut();
        cutOfEachPart();
        cutCountsPartsOverCalls();
        mount();
        mountKeepsTheOrderOfBeginning();
        record();
        word();
        count();
        down();
        takesTheBlockErasedLeastOften();
        cutErasingsCount();
        cutErasingOfNoByteLeavesTheBlock();
        CHECK.finish();
    }

    /** Appends a record without key whose value is n bytes v. */
    private static long put(TornLog x, int v, int n) {
        fillTape(x, v, n);
        return x.append(1, v, 0);
    }

    private static void fillTape(TornLog x, int v, int n) {
        for (int left = n; left > 0; left -= 1000) {
            x.fill(v, Math.min(left, 1000));
        }
    }

    /** A record that takes half a block. Its value has at most 1000 bytes, so its key has some too. */
    private static long putHalf(TornLog x, int v) {
        fillTape(x, v, HALF);
        return x.append(1, v, 11);
    }

    private static void takeDown(TornLog x) {
        x.cut(0, 0);
        Check.outcome(() -> put(x, 1, 1));
    }

    /** The moments of all records, in order; records that put made have their byte there. */
    private static String moments(TornLog x) {
        StringBuilder text = new StringBuilder();
        for (int i = 0; i < x.count(0); i++) {
            text.append(x.record(i, 1)).append(' ');
        }
        return text.toString().trim();
    }

    private static void newObject() {
        TornLog x = new TornLog();
        for (int what = 0; what <= 4; what++) {
            int asked = what;
            CHECK.due("1: count(" + what + ") of a new object", () -> x.count(asked), 0);
        }
        CHECK.missing("1: record of a new object", () -> x.record(0, 0));
        CHECK.missing("1: retire of a new object", () -> x.retire(0));
        CHECK.due("1: mount of a new object", x::mount, 0);
        CHECK.due("1: no CUT waits", () -> x.cut(0, 0), 0);
    }

    private static void feed() {
        TornLog x = new TornLog();
        CHECK.due("2: first feed", () -> x.feed(0x01020304, 0x05060708, -1, LEAST, MOST), 20);
        CHECK.due("2: its record", () -> x.append(1, 0, 4), 1);
        CHECK.due("2: bytes, the highest first", () -> x.word(0, 0), 0x0102030405060708L);
        CHECK.due("2: bytes of negative ints", () -> x.word(0, 8), 0xFFFFFFFF80000000L);
        CHECK.due("2: the last bytes", () -> x.word(0, 16), 0x7FFFFFFF00000000L);
        for (int i = 1; i <= 53; i++) {
            int length = 20 * i;
            CHECK.due("2: feed up to 1060", () -> x.feed(0, 0, 0, 0, 0), length);
        }
        CHECK.outOfBounds("2: feed beyond 1060", () -> x.feed(0, 0, 0, 0, 0));
        CHECK.due("2: the tape is as before", () -> x.count(3), 1060);
        x.end(1041);
        CHECK.outOfBounds("2: feed that would have 1061", () -> x.feed(0, 0, 0, 0, 0));
        x.end(1040);
        CHECK.due("2: feed that has 1060", () -> x.feed(0, 0, 0, 0, 0), 1060);
        x.end(0);
        takeDown(x);
        CHECK.refusedAsDown("2: feed when down", () -> x.feed(0, 0, 0, 0, 0));
    }

    private static void fill() {
        TornLog x = new TornLog();
        CHECK.illegal("3: n 0", () -> x.fill(0, 0));
        CHECK.illegal("3: n 1001", () -> x.fill(0, 1001));
        CHECK.illegal("3: n least", () -> x.fill(0, LEAST));
        CHECK.illegal("3: n most", () -> x.fill(0, MOST));
        CHECK.illegal("3: v -1", () -> x.fill(-1, 1));
        CHECK.illegal("3: v 256", () -> x.fill(256, 1));
        CHECK.due("3: nothing came", () -> x.count(3), 0);
        CHECK.due("3: v 255, n 1", () -> x.fill(255, 1), 1);
        CHECK.due("3: v 0, n 2", () -> x.fill(0, 2), 3);
        CHECK.due("3: v 128", () -> x.fill(128, 5), 8);
        x.append(1, 0, 0);
        CHECK.due("3: the bytes", () -> x.word(0, 0), 0xFF00008080808080L);
        CHECK.due("3: n 1000", () -> x.fill(7, 1000), 1000);
        CHECK.outOfBounds("3: beyond 1060", () -> x.fill(7, 61));
        CHECK.due("3: the tape is as before", () -> x.count(3), 1000);
        CHECK.due("3: up to 1060", () -> x.fill(7, 60), 1060);
        CHECK.illegal("3: out of range and beyond", () -> x.fill(256, 1));
        x.mount();
        takeDown(x);
        CHECK.refusedAsDown("3: fill when down", () -> x.fill(1, 1));
        CHECK.illegal("3: out of range when down", () -> x.fill(1, 0));
    }

    private static void end() {
        TornLog x = new TornLog();
        CHECK.due("4: n 0 of an empty tape", () -> x.end(0), 0);
        CHECK.illegal("4: n 1 of an empty tape", () -> x.end(1));
        x.feed(0x01020304, 0x05060708, 0, 0, 0);
        CHECK.illegal("4: n -1", () -> x.end(-1));
        CHECK.illegal("4: n 21 of 20", () -> x.end(21));
        CHECK.due("4: n 20 of 20", () -> x.end(20), 20);
        CHECK.due("4: n 3", () -> x.end(3), 3);
        CHECK.due("4: its length", () -> x.count(3), 3);
        x.fill(9, 1);
        x.append(1, 0, 0);
        CHECK.due("4: the first bytes were kept", () -> x.word(0, 0), 0x0102030900000000L);
        takeDown(x);
        CHECK.refusedAsDown("4: n 0 when down", () -> x.end(0));
        CHECK.illegal("4: n 1 when down, the tape is empty", () -> x.end(1));
    }

    private static void append() {
        TornLog x = new TornLog();
        x.fill(5, 10);
        CHECK.illegal("5: kind 0", () -> x.append(0, 0, 0));
        CHECK.illegal("5: kind 16", () -> x.append(16, 0, 0));
        CHECK.illegal("5: moment -1", () -> x.append(1, -1, 0));
        CHECK.illegal("5: k -1", () -> x.append(1, 0, -1));
        CHECK.illegal("5: k beyond the tape", () -> x.append(1, 0, 11));
        CHECK.due("5: the tape is as before", () -> x.count(3), 10);
        CHECK.due("5: nothing was appended", () -> x.count(1), 0);
        CHECK.due("5: all of the tape is key", () -> x.append(15, MOST, 10), 1);
        CHECK.due("5: the tape is empty", () -> x.count(3), 0);
        CHECK.due("5: no bytes at all", () -> x.append(1, 0, 0), 2);
        fillTape(x, 6, 1001);
        CHECK.illegal("5: a value of 1001", () -> x.append(1, 0, 0));
        CHECK.due("5: a value of 1000", () -> x.append(1, 0, 1), 3);
        fillTape(x, 6, 1046);
        CHECK.illegal("5: k 46", () -> x.append(1, 0, 46));
        CHECK.illegal("5: a value of 1001 behind the longest key", () -> x.append(1, 0, 45));
        x.end(1045);
        CHECK.due("5: the longest record, in a new block", () -> x.append(1, 0, 45), 1);
        CHECK.due("5: two blocks", () -> x.count(1), 2);
        CHECK.due("5: four records", () -> x.count(0), 4);
    }

    private static void appendFillsBlocks() {
        TornLog x = new TornLog();
        for (int i = 1; i <= 226; i++) {
            int records = i;
            CHECK.due("5: empty records in a block", () -> x.append(1, 0, 0), records);
        }
        CHECK.due("5: 227 * 9 is more than 2040", () -> x.append(1, 0, 0), 1);
        CHECK.due("5: the last of the first block", () -> x.record(225, 4), 0);
        CHECK.due("5: the first of the second", () -> x.record(226, 4), 1);
        CHECK.due("5: all empty records are found again", x::mount, 227);
        TornLog y = new TornLog();
        CHECK.due("5: half a block", () -> putHalf(y, 1), 1);
        CHECK.due("5: the other half fits to the byte", () -> putHalf(y, 2), 2);
        CHECK.due("5: nothing more fits", () -> y.append(1, 3, 0), 1);
        CHECK.due("5: all is found again", y::mount, 3);
        CHECK.due("5: the last byte of a full block", () -> y.word(1, HALF - 1), 2L << 56);
        TornLog z = new TornLog();
        putHalf(z, 1);
        fillTape(z, 2, HALF + 1);
        CHECK.due("5: a byte too much needs a new block", () -> z.append(1, 0, 12), 1);
    }

    private static void appendIntoFullLog() {
        TornLog x = new TornLog();
        for (int i = 0; i < 47; i++) {
            putHalf(x, i);
        }
        CHECK.due("5: 24 blocks", () -> x.count(1), 24);
        x.cut(0, 0);
        fillTape(x, 9, HALF + 1);
        CHECK.outOfBounds("5: no block is left", () -> x.append(1, 0, 12));
        CHECK.due("5: the tape is empty", () -> x.count(3), 0);
        CHECK.due("5: nothing was appended", () -> x.count(0), 47);
        CHECK.due("5: it is not down, and the CUT waits on", () -> x.cut(MOST, 0), 1);
        CHECK.due("5: the last block is still open", () -> putHalf(x, 47), 2);
        CHECK.outOfBounds("5: and full now", () -> x.append(1, 0, 0));
        CHECK.illegal("5: a wrong number is told first", () -> x.append(0, 0, 0));
        CHECK.due("5: after mount", x::mount, 48);
        CHECK.outOfBounds("5: none is open, none is left", () -> x.append(1, 0, 0));
        x.retire(3);
        CHECK.due("5: the retired block is taken", () -> put(x, 99, 1), 1);
        CHECK.due("5: it is the last one", () -> x.record(46, 1), 99);
    }

    private static void retire() {
        TornLog x = new TornLog();
        CHECK.illegal("6: i -1", () -> x.retire(-1));
        CHECK.illegal("6: i 24", () -> x.retire(24));
        CHECK.missing("6: i 23 of none", () -> x.retire(23));
        for (int i = 0; i < 6; i++) {
            putHalf(x, i);
        }
        CHECK.missing("6: i 3 of 3", () -> x.retire(3));
        CHECK.due("6: the middle one", () -> x.retire(1), 2);
        CHECK.same("6: its records are gone", moments(x), "0 1 4 5");
        CHECK.due("6: the numbers behind it are less", () -> x.record(2, 4), 1);
        CHECK.missing("6: four records are left", () -> x.record(4, 0));
        CHECK.due("6: the first one", () -> x.retire(0), 1);
        CHECK.same("6: the last block is left", moments(x), "4 5");
        CHECK.due("6: the tape is not read", () -> x.fill(1, 1), 1);
        CHECK.due("6: the last one", () -> x.retire(0), 0);
        CHECK.due("6: the tape is as before", () -> x.count(3), 1);
        CHECK.missing("6: none is left", () -> x.retire(0));
        takeDown(x);
        CHECK.refusedAsDown("6: retire when down", () -> x.retire(0));
        CHECK.illegal("6: out of range when down", () -> x.retire(24));
    }

    private static void retireOfTheLastLeavesNoneOpen() {
        TornLog x = new TornLog();
        putHalf(x, 1);
        putHalf(x, 2);
        put(x, 3, 1);
        put(x, 4, 1);
        x.retire(0);
        CHECK.due("6: the last one stays open", () -> put(x, 5, 1), 3);
        CHECK.due("6: a new block behind it", () -> put(x, 6, 1000) + put(x, 7, 1000), 4 + 1);
        x.retire(1);
        CHECK.due("6: the block before it is not opened", () -> put(x, 8, 1), 1);
        CHECK.same("6: what is left", moments(x), "3 4 5 6 8");
    }

    private static void cut() {
        TornLog x = new TornLog();
        CHECK.illegal("7: n -1", () -> x.cut(-1, 0));
        CHECK.illegal("7: b -1", () -> x.cut(0, -1));
        CHECK.due("7: none waited", () -> x.cut(MOST, MOST), 0);
        CHECK.illegal("7: wrong numbers leave it", () -> x.cut(LEAST, LEAST));
        CHECK.due("7: one waited", () -> x.cut(1, 0), 1);
        CHECK.due("7: and is replaced", () -> x.cut(3, 0), 1);
        CHECK.due("7: three parts pass", () -> put(x, 1, 1), 1);
        CHECK.refusedAsDown("7: the fourth is cut", () -> put(x, 2, 1));
        CHECK.due("7: it does not wait any more, also when down", () -> x.cut(2, 0), 0);
        CHECK.due("7: it waits when down", () -> x.cut(2, 0), 1);
        CHECK.due("7: the whole record is there", x::mount, 1);
        CHECK.due("7: it waits over mount", () -> x.cut(2, 0), 1);
        CHECK.refusedAsDown("7: and cuts then", () -> put(x, 3, 1));
        CHECK.due("7: the tape is empty", () -> x.count(3), 0);
        x.mount();
        CHECK.due("7: no CUT is left", () -> put(x, 4, 1), 1);
        CHECK.same("7: records that were cut are not there", moments(x), "1 4");
    }

    private static void cutOfEachPart() {
        for (int part = 0; part <= 2; part++) {
            for (int bytes : new int[] {0, 1, 5, 6, 9, 10, 2047, 2048, MOST}) {
                TornLog x = new TornLog();
                String name = "7: cut(" + part + ", " + bytes + ")";
                putHalf(x, 1);
                putHalf(x, 2);
                x.cut(part, bytes);
                CHECK.refusedAsDown(name, () -> put(x, 3, 1));
                CHECK.due(name + " leaves the whole records", x::mount, 2);
                CHECK.due(name + ": a begun block is there", () -> x.count(1), part == 2 ? 2 : 1);
                CHECK.due(name + ": a new block next", () -> put(x, 4, 1), 1);
                CHECK.due(name + ": its number", () -> x.record(2, 4), part == 2 ? 2 : 1);
                CHECK.due(name + ": all was erased before", () -> x.count(4), 0);
            }
        }
    }

    private static void cutCountsPartsOverCalls() {
        TornLog x = new TornLog();
        x.cut(7, 3);
        put(x, 1, 1);
        x.mount();
        put(x, 2, 1);
        CHECK.due("7: part 6", () -> put(x, 3, 1), 2);
        CHECK.refusedAsDown("7: part 7", () -> put(x, 4, 1));
        CHECK.due("7: three records", x::mount, 3);
    }

    private static void mount() {
        TornLog x = new TornLog();
        put(x, 1, 1);
        x.fill(1, 50);
        CHECK.due("8: when it is not down", x::mount, 1);
        CHECK.due("8: the tape is empty", () -> x.count(3), 0);
        CHECK.due("8: no block is open", () -> put(x, 2, 1), 1);
        CHECK.due("8: so there are two", () -> x.count(1), 2);
        takeDown(x);
        CHECK.due("8: down", () -> x.count(2), 1);
        CHECK.due("8: when it is down", x::mount, 2);
        CHECK.due("8: not down any more", () -> x.count(2), 0);
        CHECK.due("8: the same again", x::mount, 2);
    }

    private static void mountKeepsTheOrderOfBeginning() {
        TornLog x = new TornLog();
        for (int i = 0; i < 24; i++) {
            put(x, i, 1000);
            put(x, 100 + i, 1000);
        }
        x.retire(5);
        x.retire(2);
        put(x, 200, 1000);
        CHECK.due("8: the other retired block comes back", x::mount, 47);
        CHECK.due("8: the reused one is the last", () -> x.record(46, 1), 200);
        CHECK.due("8: the block behind it moved up", () -> x.record(4, 1), 3);
        CHECK.due("8: the retired one is where it was begun", () -> x.record(8, 1), 5);
        CHECK.due("8: with both records", () -> x.record(9, 1), 105);
    }

    private static void record() {
        TornLog x = new TornLog();
        x.fill(1, 12);
        x.append(15, MOST, 5);
        x.append(1, 0, 0);
        fillTape(x, 3, 1045);
        x.append(7, 0x01020304, 45);
        long[][] want = {{15, MOST, 5, 7, 0}, {1, 0, 0, 0, 0}, {7, 0x01020304, 45, 1000, 0}};
        for (int i = 0; i < 3; i++) {
            for (int what = 0; what <= 4; what++) {
                int number = i;
                int asked = what;
                CHECK.due("9: record(" + i + ", " + what + ")", () -> x.record(number, asked), want[i][what]);
            }
        }
        CHECK.illegal("9: what -1", () -> x.record(0, -1));
        CHECK.illegal("9: what 5", () -> x.record(0, 5));
        CHECK.illegal("9: what 5 of none", () -> x.record(3, 5));
        CHECK.missing("9: i 3 of 3", () -> x.record(3, 0));
        CHECK.missing("9: i -1", () -> x.record(-1, 0));
        CHECK.missing("9: i most", () -> x.record(MOST, 4));
        CHECK.missing("9: i least", () -> x.record(LEAST, 4));
        takeDown(x);
        CHECK.refusedAsDown("9: record when down", () -> x.record(0, 0));
        CHECK.refusedAsDown("9: record of none when down", () -> x.record(-1, 0));
        CHECK.illegal("9: what 5 when down", () -> x.record(0, 5));
    }

    private static void word() {
        TornLog x = new TornLog();
        x.feed(0x81020304, 0x05060708, 0x090A0B0C, 0, 0);
        x.end(12);
        x.append(1, 0, 3);
        x.append(1, 0, 0);
        put(x, 255, 8);
        CHECK.due("10: from 0", () -> x.word(0, 0), 0x8102030405060708L);
        CHECK.due("10: over key and value", () -> x.word(0, 2), 0x030405060708090AL);
        CHECK.due("10: up to the end", () -> x.word(0, 4), 0x05060708090A0B0CL);
        CHECK.due("10: zeros behind the end", () -> x.word(0, 5), 0x060708090A0B0C00L);
        CHECK.due("10: the last byte", () -> x.word(0, 11), 0x0C00000000000000L);
        CHECK.due("10: bytes 255", () -> x.word(2, 0), -1L);
        CHECK.outOfBounds("10: j 12 of 12", () -> x.word(0, 12));
        CHECK.outOfBounds("10: j -1", () -> x.word(0, -1));
        CHECK.outOfBounds("10: j most", () -> x.word(0, MOST));
        CHECK.outOfBounds("10: j 0 of no bytes", () -> x.word(1, 0));
        CHECK.missing("10: i 3 of 3", () -> x.word(3, 0));
        CHECK.missing("10: i -1, j -1", () -> x.word(-1, -1));
        takeDown(x);
        CHECK.refusedAsDown("10: word when down", () -> x.word(-1, -1));
    }

    private static void count() {
        TornLog x = new TornLog();
        putHalf(x, 1);
        putHalf(x, 2);
        put(x, 3, 1);
        x.fill(1, 17);
        long[] want = {3, 2, 0, 17, 0};
        for (int what = 0; what <= 4; what++) {
            int asked = what;
            CHECK.due("11: count(" + what + ")", () -> x.count(asked), want[what]);
        }
        CHECK.illegal("11: what -1", () -> x.count(-1));
        CHECK.illegal("11: what 5", () -> x.count(5));
        takeDown(x);
        CHECK.refusedAsDown("11: records when down", () -> x.count(0));
        CHECK.refusedAsDown("11: blocks when down", () -> x.count(1));
        CHECK.due("11: down", () -> x.count(2), 1);
        CHECK.due("11: bytes of the tape when down", () -> x.count(3), 0);
        CHECK.due("11: bytes not erased before, when down", () -> x.count(4), 0);
        CHECK.illegal("11: what 5 when down", () -> x.count(5));
    }

    private static void down() {
        TornLog x = new TornLog();
        takeDown(x);
        CHECK.illegal("12: a number out of range is told first", () -> x.append(0, 0, 0));
        CHECK.illegal("12: and a tape that is too short", () -> x.append(1, 0, 1));
        CHECK.refusedAsDown("12: then that it is down", () -> x.append(1, 0, 0));
        CHECK.illegal("12: cut out of range when down", () -> x.cut(-1, 0));
        CHECK.due("12: mount ends it", x::mount, 0);
        CHECK.due("12: append then", () -> x.append(1, 0, 0), 1);
    }

    /** Begins blocks 0 .. n - 1, each with one record whose moment is its number, and retires none. */
    private static TornLog begun(int n) {
        TornLog x = new TornLog();
        for (int i = 0; i < n; i++) {
            x.append(1, i, 0);
            x.mount();
        }
        return x;
    }

    private static void takesTheBlockErasedLeastOften() {
        TornLog x = begun(24);
        x.retire(9);
        x.retire(4);
        x.append(1, 100, 0);
        x.mount();
        CHECK.due("12: of two the one with the least number went", () -> x.record(4, 1), 5);
        x.retire(23);
        x.retire(8);
        x.append(1, 101, 0);
        x.mount();
        CHECK.due("12: not the least number, but the one erased less often", () -> x.record(22, 1), 100);
        CHECK.due("12: it is the new one now", () -> x.record(23, 1), 101);
        CHECK.due("12: block 9 is gone", () -> x.record(8, 1), 10);
        TornLog y = begun(2);
        y.retire(0);
        y.append(1, 100, 0);
        CHECK.due("12: a block that was never erased comes first", y::mount, 3);
    }

    private static void cutErasingsCount() {
        for (int bytes : new int[] {0, 1, 2048}) {
            String name = "12: erasing of block 3 cut at " + bytes;
            boolean stays = bytes == 0;
            TornLog x = begun(24);
            x.retire(3);
            x.cut(0, bytes);
            CHECK.refusedAsDown(name, () -> x.append(1, 100, 0));
            CHECK.due(name + ": what is found", x::mount, stays ? 24 : 23);
            x.retire(10);
            if (stays) {
                x.retire(3);
            }
            x.append(1, 101, 0);
            CHECK.due(name + ": the block retired since is taken", x::mount, stays ? 24 : 23);
            String now = " " + moments(x) + " ";
            CHECK.same(name + ": block 3", "" + now.contains(" 3 "), "" + stays);
            CHECK.same(name + ": the block taken", "" + now.contains(stays ? " 10 " : " 11 "), "false");
        }
    }

    private static void cutErasingOfNoByteLeavesTheBlock() {
        TornLog x = begun(24);
        x.retire(0);
        x.cut(0, 0);
        CHECK.refusedAsDown("12: an erasing of no byte", () -> x.append(1, 100, 0));
        CHECK.due("12: the block has what it had", x::mount, 24);
        CHECK.due("12: its record", () -> x.record(0, 1), 0);
        x.retire(0);
        x.cut(0, 1);
        CHECK.refusedAsDown("12: an erasing of one byte", () -> x.append(1, 100, 0));
        CHECK.due("12: the block is none of the log", x::mount, 23);
        x.cut(1, 0);
        CHECK.refusedAsDown("12: a beginning of no byte", () -> x.append(1, 100, 0));
        CHECK.due("12: the block was not begun", x::mount, 23);
        CHECK.due("12: it can be taken again", () -> x.append(1, 100, 0), 1);
        CHECK.due("12: and is the last one", () -> x.record(23, 1), 100);
    }
}
