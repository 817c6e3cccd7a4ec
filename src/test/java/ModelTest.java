import java.util.ArrayList;
import java.util.List;
import java.util.Random;

/** Runs of calls from fixed seeds, on TornLog and on Model: both answer the same. */
public final class ModelTest {
    private static final int RUNS = 3000;
    private static final int CALLS = 512;
    private static final int[] BYTES = {0, 1, 90, 254, 255};
    private static final int[] EDGES = {Integer.MIN_VALUE, -1, 0, 1, 15, 16, 23, 24, 45, 46, 255, 256, 1000, 1001,
        Integer.MAX_VALUE};

    private final Random random;
    private final TornLog log = new TornLog();
    private final Model model = new Model();
    private final List<String> calls = new ArrayList<>();
    private final Check check;
    /** How long records mostly are, how often the power fails and blocks are retired: each run has its own. */
    private final int longest;
    private final int cutsInHundred;
    private final int retiresInHundred;

    private ModelTest(int seed, Check check) {
        this.check = check;
        random = new Random(seed);
        longest = new int[] {0, 3, 60, 400, 1045}[random.nextInt(5)];
        cutsInHundred = new int[] {0, 5, 20}[random.nextInt(3)];
        retiresInHundred = new int[] {0, 5, 20}[random.nextInt(3)];
    }

    public static void main(String[] args) {
        Check check = new Check();
        for (int seed = 1; seed <= RUNS && !check.failed(); seed++) {
            ModelTest run = new ModelTest(seed, check);
            run.go();
            if (check.failed()) {
                System.out.println("seed " + seed + ": " + String.join("; ", run.calls));
            }
        }
        check.finish();
    }

    private void go() {
        while (calls.size() < CALLS - 8 && !check.failed()) {
            step(random.nextInt(100));
        }
    }

    private void step(int dice) {
        int chance = random.nextInt(100);
        if (chance < cutsInHundred) {
            callCut(random.nextInt(6), pick(new int[] {0, 1, 5, 6, 9, random.nextInt(2100)}));
        } else if (chance < cutsInHundred + retiresInHundred) {
            callRetire(random.nextInt(24));
        } else if (dice < 45) {
            putRecord();
        } else if (dice < 60) {
            callRecord(random.nextInt(60) - 1, random.nextInt(5));
        } else if (dice < 75) {
            callWord(random.nextInt(60) - 1, random.nextInt(longest + 10) - 1);
        } else if (dice < 85) {
            callCount(random.nextInt(5));
        } else if (dice < 90 || model.count(2) == 1) {
            callMount();
        } else {
            strange(random.nextInt(9));
        }
    }

    private void putRecord() {
        int bytes = random.nextInt(longest + 1);
        for (int left = bytes; left > 0; ) {
            int n = Math.min(left, 1 + random.nextInt(1000));
            if (n <= 20 && random.nextBoolean()) {
                callFeed();
            } else {
                callFill(pick(BYTES), n);
            }
            left -= n;
        }
        if (random.nextInt(4) > 0) {
            callEnd(Math.min(bytes, (int) model.count(3)));
        }
        int least = Math.max(0, bytes - 1000);
        int k = Math.min(bytes, Math.max(least, random.nextInt(46)));
        callAppend(1 + random.nextInt(15), random.nextInt() & Integer.MAX_VALUE, k);
    }

    private void strange(int which) {
        int a = pick(EDGES);
        int b = pick(EDGES);
        switch (which) {
            case 0 -> callFeed();
            case 1 -> callFill(a, b);
            case 2 -> callEnd(a);
            case 3 -> callAppend(random.nextInt(17), a, b);
            case 4 -> callRetire(a);
            case 5 -> callCut(a, b);
            case 6 -> callRecord(a, b);
            case 7 -> callWord(a, b);
            default -> callCount(a);
        }
    }

    private int pick(int[] row) {
        return row[random.nextInt(row.length)];
    }

    private void callFeed() {
        int a = random.nextInt();
        int e = pick(EDGES);
        both("feed(" + a + ", -1, 0, 7, " + e + ")", () -> log.feed(a, -1, 0, 7, e), () -> model.feed(a, -1, 0, 7, e));
    }

    private void callFill(int v, int n) {
        both("fill(" + v + ", " + n + ")", () -> log.fill(v, n), () -> model.fill(v, n));
    }

    private void callEnd(int n) {
        both("end(" + n + ")", () -> log.end(n), () -> model.end(n));
    }

    private void callAppend(int kind, int moment, int k) {
        both("append(" + kind + ", " + moment + ", " + k + ")",
                () -> log.append(kind, moment, k), () -> model.append(kind, moment, k));
    }

    private void callRetire(int i) {
        both("retire(" + i + ")", () -> log.retire(i), () -> model.retire(i));
    }

    private void callCut(int n, int b) {
        both("cut(" + n + ", " + b + ")", () -> log.cut(n, b), () -> model.cut(n, b));
    }

    private void callMount() {
        both("mount()", log::mount, model::mount);
    }

    private void callRecord(int i, int what) {
        both("record(" + i + ", " + what + ")", () -> log.record(i, what), () -> model.record(i, what));
    }

    private void callWord(int i, int j) {
        both("word(" + i + ", " + j + ")", () -> log.word(i, j), () -> model.word(i, j));
    }

    private void callCount(int what) {
        both("count(" + what + ")", () -> log.count(what), () -> model.count(what));
    }

    private void both(String call, Check.Call onLog, Check.Call onModel) {
        calls.add(call);
        check.same(call, Check.outcome(onLog), Check.outcome(onModel));
    }
}
