/** Promise 7, sentence by sentence. */
public final class Promise07CutTest {
    private static final Section SECTION = new Section("Promise 7");

    public static void main(String[] args) {
        range();
        waits();
        inPlaceOfAnother();
        whetherOneWaited();
        alsoWhenDown();
        SECTION.finish();
    }

    private static void range() {
        SECTION.sentence("n, b 0 or more.");
        for (int wrong : new int[] {Section.LEAST, -1}) {
            for (int right : new int[] {0, 1, Section.MOST}) {
                SECTION.refusesInAll("n " + wrong + ", b " + right, States.all(), x -> x.cut(wrong, right),
                        Section.ILLEGAL_ARGUMENT);
                SECTION.refusesInAll("n " + right + ", b " + wrong, States.all(), x -> x.cut(right, wrong),
                        Section.ILLEGAL_ARGUMENT);
            }
            SECTION.refusesInAll("n and b " + wrong, States.all(), x -> x.cut(wrong, wrong), Section.ILLEGAL_ARGUMENT);
        }
        for (int n : new int[] {0, 1, Section.MOST}) {
            for (int b : new int[] {0, 1, Section.MOST}) {
                Subject x = new Subject();
                SECTION.answers("n " + n + ", b " + b, () -> x.cut(n, b), 0);
                SECTION.answers("n " + n + ", b " + b + " waits", () -> x.cut(0, 0), 1);
            }
        }
    }

    private static void waits() {
        SECTION.sentence("A CUT of n and b waits");
        for (int n = 0; n <= 5; n++) {
            Subject x = new Subject();
            x.cut(n, 0);
            // The first record has three parts, with its block; each other has one.
            for (int records = 1; records <= n - 2; records++) {
                SECTION.answers("cut(" + n + ", 0): record " + records + " passes", () -> x.append(1, 0, 0), records);
            }
            SECTION.throwsOf("cut(" + n + ", 0): then it comes", () -> x.append(1, 0, 0), Section.ILLEGAL_STATE);
        }
        Subject far = new Subject();
        far.cut(Section.MOST, 0);
        for (int i = 1; i <= 200; i++) {
            SECTION.answers("cut of the greatest n: append " + i, () -> far.append(1, 0, 0), i);
        }
        SECTION.answers("cut of the greatest n waits on", () -> far.cut(0, 0), 1);
    }

    private static void inPlaceOfAnother() {
        SECTION.sentence("in place of one that waited");
        Subject later = States.open(1);
        later.cut(0, 0);
        later.cut(1, 0);
        SECTION.answers("a later one: the first part passes", () -> later.append(1, 1, 0), 2);
        SECTION.throwsOf("a later one: the second does not", () -> later.append(1, 2, 0), Section.ILLEGAL_STATE);
        later.mount();
        SECTION.answers("none of both is left", () -> later.append(1, 3, 0), 1);
        Subject sooner = States.open(1);
        sooner.cut(1, 0);
        sooner.cut(0, 0);
        SECTION.throwsOf("a sooner one comes at once", () -> sooner.append(1, 1, 0), Section.ILLEGAL_STATE);
        sooner.mount();
        SECTION.answers("the other one is gone", () -> sooner.cut(0, 0), 0);
        Subject again = States.open(1);
        again.cut(1, 0);
        again.append(1, 1, 0);
        again.cut(1, 0);
        SECTION.answers("the same again counts from now", () -> again.append(1, 2, 0), 3);
        for (int b = 0; b <= 1; b++) {
            Subject x = States.begun(24);
            x.retire(0);
            x.cut(0, 1 - b);
            x.cut(0, b);
            Check.outcome(() -> x.append(1, 100, 0));
            SECTION.answers("the later one's b " + b + " holds, not the other's", x::mount, 24 - b);
        }
    }

    private static void whetherOneWaited() {
        SECTION.sentence("Answers 1 if one waited, else 0.");
        Subject x = new Subject();
        SECTION.answers("none", () -> x.cut(2, 0), 0);
        SECTION.answers("one", () -> x.cut(2, 0), 1);
        x.mount();
        SECTION.answers("one, also behind a mount", () -> x.cut(2, 0), 1);
        SECTION.throwsOf("it comes", () -> x.append(1, 0, 0), Section.ILLEGAL_STATE);
        SECTION.answers("none, when it came", () -> x.cut(3, 0), 0);
        x.mount();
        SECTION.answers("three parts pass", () -> x.append(1, 0, 0), 1);
        SECTION.answers("one, when only parts before it came", () -> x.cut(3, 0), 1);
    }

    private static void alsoWhenDown() {
        SECTION.sentence("(Also when it is DOWN.)");
        Subject x = States.downAtOnce();
        SECTION.answers("none waited", () -> x.cut(0, 0), 0);
        SECTION.answers("one waited", () -> x.cut(2, 0), 1);
        SECTION.answers("it is down still", () -> x.count(2), 1);
        SECTION.throwsOf("a call that is refused is no part of it", () -> x.append(1, 0, 0), Section.ILLEGAL_STATE);
        SECTION.answers("mount", x::mount, 0);
        SECTION.throwsOf("it comes in the third part then", () -> x.append(1, 0, 0), Section.ILLEGAL_STATE);
        SECTION.answers("with the block begun", () -> x.mount() + x.count(1), 1);
    }
}
