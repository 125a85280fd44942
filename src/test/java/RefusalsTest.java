import java.util.ArrayList;
import java.util.List;

/**
 * "Answers, of several the one named first ... What is answered so changes nothing": each refused call, and each call
 * that only asks, is made on one of two programs that had like calls; all that can be asked then must be as on the
 * other.
 */
public final class RefusalsTest {
    private static final Due due = new Due();
    private static final int BAD = -1, NOT = -2, FULL = -3, STATE = -5, VOID = -2000000000;
    private static final long NONE = Long.MIN_VALUE;

    interface Made {
        Run made();
    }

    interface Call {
        long on(Run law);
    }

    private static Made made = RefusalsTest::some;

    public static void main(String[] args) {
        lawsRefused();
        changesRefused();
        casesRefused();
        toldRowsRefused();
        whatMightBeRefused();
        bodiesRefused();
        rowsRefused();
        shiftsRefused();
        made = RefusalsTest::some;
        whatOnlyAsks();
        whatStaysAsItIs();
        made = RefusalsTest::full;
        refusedWhenFull();
        made = Run::new;
        refusedWhenNew();
        made = RefusalsTest::allUndone;
        due.by(22, "STATE: none. What is answered so changes nothing.");
        refused(STATE, Run::undo);
        made = RefusalsTest::allDoneAgain;
        due.by(23, "STATE: none. What is answered so changes nothing.");
        refused(STATE, Run::redo);
        made = RefusalsTest::withoutImage;
        due.by(21, "STATE: there is none. What is answered so changes nothing.");
        refused(STATE, Run::back);
        due.end();
    }

    private static void refused(long answer, Call call) {
        Run one = made.made(), other = made.made();
        long got = call.on(one);
        due.is(got, answer);
        String told = one.call(Run.MOST_CALLS - one.callsLeft() - 1);
        List<Long> want = asked(other), is = asked(one);
        for (int k = 0; k < want.size(); k++) {
            if (!is.get(k).equals(want.get(k))) {
                due.is(0, "what is asked after " + told + ", no. " + k, is.get(k), want.get(k));
                return;
            }
        }
    }

    /** Calls that only ask, and that change nothing by what they answer. */
    private static void asks(Call... calls) {
        for (Call call : calls) {
            refused(call.on(made.made()), call);
        }
    }

    // what is asked

    private static List<Long> asked(Run law) {
        List<Long> all = new ArrayList<>();
        askRun(all, law);
        askShelves(all, law);
        askLaws(all, law);
        askCases(all, law);
        add(all, law.redo(), law.redo());
        askLaws(all, law);
        add(all, law.undo(), law.undo(), law.undo(), law.undo(), law.undo(), law.undo());
        askLaws(all, law);
        add(all, law.redo(), law.redo(), law.back(), law.undo(), law.redo());
        askLaws(all, law);
        add(all, law.feed('4'), law.law(7, 2), law.of(3, 5), law.laws(1, 0, 2), law.body(0), law.count(0));
        return all;
    }

    private static void add(List<Long> all, long... answers) {
        for (long answer : answers) {
            all.add(answer);
        }
    }

    private static void askLaws(List<Long> all, Run law) {
        int many = Math.min(4, law.count(0));
        for (int number = 0; number < many; number++) {
            for (int what = 0; what <= 5; what++) {
                add(all, law.of(number, what));
            }
        }
        add(all, law.of(0, 10), law.of(1, 10), law.of(2, 10), law.of(0, 20), law.of(0, 21));
        for (int what = 0; what <= 5; what++) {
            add(all, law.count(what));
        }
    }

    private static void askRun(List<Long> all, Run law) {
        int ran = law.count(6);
        add(all, ran);
        for (int i = 0; i <= ran; i++) {
            add(all, law.trace(i));
        }
    }

    private static void askShelves(List<Long> all, Run law) {
        int[] sizes = {8, 12, 1, 1, 3, 2};
        for (int shelf = 0; shelf < 6; shelf++) {
            add(all, law.taken(shelf, 0), law.put(shelf, 60, 1), law.judge(shelf));
            for (int i = 0; i <= sizes[shelf]; i++) {
                add(all, law.element(shelf, i));
            }
        }
    }

    private static void askCases(List<Long> all, Run law) {
        for (int kase : new int[] {0, 1, 100, 111, 222, 444}) {
            add(all, law.verdict(kase, 1), law.verdict(kase, 2));
        }
        add(all, law.never(), law.rings(), law.meant(0, 0), law.meant(1, 0), law.unlike(2, 0), law.write(0, 5, 1));
    }

    // programs that had some calls

    /** Three laws, the last not there; words moved, an image, changes, one undone; bodies, a trace, all shelves. */
    private static Run some() {
        Run law = new Run();
        Due.law(law, "x=1", 10, 2);
        Due.law(law, "y>1|z>d-19", 20, 0);
        Due.law(law, "x<d", 90, 1);
        law.mend(0, 4, 80);
        law.mend(1, 2, 0);
        law.moved(0, 2, 40);
        law.moved(1, 0, 95);
        law.image();
        law.mend(0, 0, 15);
        law.mend(0, 1, 1);
        law.mend(0, 3, 2);
        law.undo();
        Due.feed(law, "x<");
        law.body(5);
        law.body(7);
        law.body(0);
        law.act(0, 3, 1);
        Due.row(law, 0, Due.SHORTS, 100, -2, 1, 1, 44, 0, 400, -2);
        Due.row(law, 1, Due.BYTES, 10, 1, -1, 0, 1, 3, 30, 2, 0, 2, 0, 4);
        law.keep(2, 1);
        Due.row(law, 4, Due.LONGS, 1L << 40, 2, 3);
        Due.row(law, 5, Due.BOOLEANS, 1, 0);
        return law;
    }

    private static Run full() {
        Run law = new Run();
        for (int k = 0; k < 10; k++) {
            Due.law(law, "x=" + k % 5, k, k % 3);
        }
        law.image();
        for (int k = 0; k < 41; k++) {
            law.mend(k % 10, 0, 20 + k);
        }
        law.undo();
        Due.feed(law, "0" + "+1".repeat(28) + "+12");
        for (int k = 0; k < 50; k++) {
            law.body(k % 8);
        }
        law.act(49, 3, 1);
        Due.row(law, 1, Due.BYTES, 10, 1, -1, 0, 1, 3);
        return law;
    }

    private static Run allUndone() {
        Run law = some();
        for (int k = 0; k < 4; k++) {
            law.undo();
        }
        return law;
    }

    private static Run allDoneAgain() {
        Run law = some();
        law.redo();
        return law;
    }

    private static Run withoutImage() {
        Run law = new Run();
        Due.law(law, "x=1", 10, 2);
        law.moved(0, 2, 40);
        law.mend(0, 0, 15);
        law.mend(0, 1, 1);
        law.mend(0, 2, 0);
        law.undo();
        return law;
    }

    // what is refused

    private static void lawsRefused() {
        due.by(2, "BAD. What is answered so changes nothing.");
        refused(BAD, law -> law.feed(-1));
        refused(BAD, law -> law.feed(256));
        due.by(3, "BAD. What is answered so changes nothing.");
        refused(BAD, law -> law.law(-1, 0));
        refused(BAD, law -> law.law(100, 0));
        refused(BAD, law -> law.law(0, -1));
        refused(BAD, law -> law.law(0, 3));
        due.by(4, "BAD, -12. What is answered so changes nothing.");
        refused(BAD, law -> law.laws(-1, 0, 1));
        refused(BAD, law -> law.laws(6, 0, 1));
        refused(BAD, law -> law.laws(1, 0, 0));
        refused(BAD, law -> law.laws(1, 0, 11));
        refused(BAD, law -> law.laws(0, 0, 11));
        refused(-12, law -> law.laws(0, 0, 1));
        refused(-12, law -> law.laws(2, 0, 1));
        refused(-12, law -> law.laws(4, 0, 1));
        refused(-12, law -> law.laws(5, 0, 1));
        refused(0, law -> law.laws(3, 0, 1));
        refused(0, law -> law.laws(1, -1, 1));
        refused(0, law -> law.laws(1, 1, 1));
        refused(0, law -> law.laws(1, 7, 1));
    }

    private static void changesRefused() {
        due.by(5, "VOID: BAD. What is answered so changes nothing.");
        int[][] voids = {{3, 0, 1}, {-1, 0, 1}, {0, 0, 100}, {0, 0, -1}, {3, 1, 1}, {0, 1, 3}, {0, 1, -1}, {3, 2, 1},
            {0, 2, 10}, {0, 2, -2}, {1, 3, 0}, {0, 3, 4}, {0, 3, -1}, {1, 4, 0}, {0, 4, 100}, {0, 4, -1}, {0, 5, 0},
            {0, -1, 0}};
        for (int[] each : voids) {
            refused(VOID, law -> law.mend(each[0], each[1], each[2]));
        }
        due.by(6, "BAD. What is answered so changes nothing.");
        int[][] bad = {{-1, 0, 0}, {3, 0, 0}, {3, -1, 0}, {0, 0, 0}, {1, 1, 0}, {2, 2, 0}, {0, 3, 0}, {0, -2, 0},
            {0, 1, -1}, {0, 1, 100}, {2, 0, 100}};
        for (int[] each : bad) {
            refused(BAD, law -> law.moved(each[0], each[1], each[2]));
        }
        due.by(7, "VOID: BAD. What is answered so changes nothing.");
        int[][] none = {{3, 0}, {-1, 5}, {0, 6}, {0, -1}, {3, 10}, {1, 20}, {1, 21}, {0, 22}};
        for (int[] each : none) {
            refused(VOID, law -> law.of(each[0], each[1]));
        }
    }

    private static void casesRefused() {
        due.by(8, "BAD. What is answered so changes nothing.");
        refused(BAD, law -> law.speaks(3, 0));
        refused(BAD, law -> law.speaks(-1, 0));
        refused(BAD, law -> law.speaks(0, 5));
        refused(BAD, law -> law.speaks(0, 445));
        due.by(9, "BAD; NOT: none SPEAKS. What is answered so changes nothing.");
        refused(BAD, law -> law.verdict(5, 0));
        refused(BAD, law -> law.verdict(-1, 0));
        refused(BAD, law -> law.verdict(0, 3));
        refused(BAD, law -> law.verdict(0, -1));
        refused(NOT, law -> law.verdict(400, 0));
        refused(NOT, law -> law.verdict(400, 1));
        refused(NOT, law -> law.verdict(400, 2));
        due.by(12, "BAD; NOT (what 0). What is answered so changes nothing.");
        for (int ij : new int[] {-1, 0, 11, 2, 20, 12, 3, 30, 100}) {
            refused(BAD, law -> law.clash(ij, 0));
            refused(BAD, law -> law.clash(ij, 1));
        }
        refused(BAD, law -> law.clash(1, 2));
        refused(BAD, law -> law.clash(1, -1));
    }

    private static void toldRowsRefused() {
        due.by(10, "BAD, -11, -12 (no ROW of shorts); NOT. What is answered so changes nothing.");
        int[] answers = {0, -12, -12, -11, -12, -12};
        for (int shelf = 1; shelf < 6; shelf++) {
            int at = shelf;
            refused(answers[shelf], law -> law.judge(at));
            refused(answers[shelf], law -> law.write(at, 0, 0));
            refused(answers[shelf], law -> law.bars(at, 0, 0));
            refused(answers[shelf], law -> law.falseOnes(at));
            refused(BAD, law -> law.write(at, 100, 0));
            refused(BAD, law -> law.bars(at, 0, 3));
        }
        for (int shelf : new int[] {-1, 6}) {
            refused(BAD, law -> law.judge(shelf));
            refused(BAD, law -> law.write(shelf, 0, 0));
            refused(BAD, law -> law.bars(shelf, 0, 0));
            refused(BAD, law -> law.falseOnes(shelf));
        }
        int[][] bad = {{-1, 0}, {100, 0}, {0, -1}, {0, 3}};
        for (int[] each : bad) {
            refused(BAD, law -> law.write(0, each[0], each[1]));
            refused(BAD, law -> law.bars(0, each[0], each[1]));
        }
    }

    private static void whatMightBeRefused() {
        due.by(15, "BAD; NOT (what 1). What is answered so changes nothing.");
        refused(BAD, law -> law.meant(-1, 0));
        refused(BAD, law -> law.meant(3, 0));
        refused(BAD, law -> law.meant(0, 2));
        refused(BAD, law -> law.meant(0, -1));
        refused(NOT, law -> law.meant(1, 1));
        refused(NOT, law -> law.meant(2, 1));
        due.by(17, "BAD; STATE: it is not there. What is answered so changes nothing.");
        refused(BAD, law -> law.under(3, 0));
        refused(BAD, law -> law.under(-1, 0));
        refused(BAD, law -> law.under(0, 2));
        refused(BAD, law -> law.under(2, -1));
        refused(STATE, law -> law.under(2, 0));
        refused(STATE, law -> law.under(2, 1));
        due.by(18, "BAD; NOT (what 1). What is answered so changes nothing.");
        refused(BAD, law -> law.unlike(-1, 0));
        refused(BAD, law -> law.unlike(4, 0));
        refused(BAD, law -> law.unlike(40, 0));
        refused(BAD, law -> law.unlike(0, 2));
        refused(NOT, law -> law.unlike(22, 1));
    }

    private static void bodiesRefused() {
        due.by(24, "BAD. What is answered so changes nothing.");
        refused(BAD, law -> law.body(-1));
        refused(BAD, law -> law.body(8));
        due.by(26, "BAD. What is answered so changes nothing.");
        refused(BAD, law -> law.trace(-1));
        refused(BAD, law -> law.trace(10));
        refused(BAD, law -> law.trace(24));
        due.by(27, "BAD. What is answered so changes nothing.");
        for (int shelf = 0; shelf < 6; shelf++) {
            int at = shelf;
            refused(BAD, law -> law.keep(at, 3));
            refused(BAD, law -> law.keep(at, -2));
        }
        refused(BAD, law -> law.keep(-1, 0));
        refused(BAD, law -> law.keep(6, -1));
        due.by(32, "BAD, -11, -12. What is answered so changes nothing.");
        refused(BAD, law -> law.taken(6, 0));
        refused(BAD, law -> law.taken(-1, 0));
        refused(BAD, law -> law.taken(3, 8));
        refused(BAD, law -> law.taken(2, -1));
        refused(-11, law -> law.taken(3, 0));
        refused(-12, law -> law.taken(2, 5));
        refused(-12, law -> law.taken(0, 0));
        due.by(33, "BAD. What is answered so changes nothing.");
        refused(BAD, law -> law.count(-1));
        refused(BAD, law -> law.count(7));
    }

    private static void rowsRefused() {
        due.by(28, "BAD (sort, n above 60); -14. What is answered so changes nothing.");
        for (int shelf = 0; shelf < 6; shelf++) {
            int at = shelf;
            refused(BAD, law -> law.row(at, -1, 2));
            refused(BAD, law -> law.row(at, 5, 2));
            refused(BAD, law -> law.row(at, 1, 61));
            refused(BAD, law -> law.row(at, 5, -1));
            refused(-14, law -> law.row(at, 1, -1));
        }
        refused(BAD, law -> law.row(-1, 1, 2));
        refused(BAD, law -> law.row(6, 1, 2));
        refused(BAD, law -> law.row(6, 1, -1));
        due.by(29, "BAD, -11, -12, -13. What is answered so changes nothing.");
        refused(BAD, law -> law.put(-1, 0, 9));
        refused(BAD, law -> law.put(6, -1, 9));
        refused(-11, law -> law.put(3, 0, 9));
        refused(-11, law -> law.put(3, -1, 9));
        refused(-12, law -> law.put(2, 0, 9));
        refused(-12, law -> law.put(2, -1, 9));
        refused(-13, law -> law.put(0, 8, 9));
        refused(-13, law -> law.put(1, 12, 9));
        refused(-13, law -> law.put(4, -1, 9));
        refused(-13, law -> law.put(5, 2, 9));
        due.by(30, "Long.MIN_VALUE: BAD, -11 to -13. What is answered so changes nothing.");
        refused(NONE, law -> law.element(-1, 0));
        refused(NONE, law -> law.element(6, 0));
        refused(NONE, law -> law.element(3, 0));
        refused(NONE, law -> law.element(2, 0));
        refused(NONE, law -> law.element(0, 8));
        refused(NONE, law -> law.element(0, -1));
    }

    private static void shiftsRefused() {
        due.by(31, "BAD, -11 (either), -12 (no ROWS, or of unlike sorts), -13. What is answered so changes nothing.");
        refused(BAD, law -> law.shift(-1, 0, 0, 0, 1));
        refused(BAD, law -> law.shift(0, 0, 6, 0, 1));
        refused(BAD, law -> law.shift(3, 0, 6, 0, -1));
        refused(-11, law -> law.shift(3, 0, 0, 0, 1));
        refused(-11, law -> law.shift(0, 0, 3, 0, 1));
        refused(-11, law -> law.shift(2, 0, 3, 0, -1));
        refused(-12, law -> law.shift(2, 0, 0, 0, 1));
        refused(-12, law -> law.shift(0, 0, 2, 0, 1));
        refused(-12, law -> law.shift(2, 0, 2, 0, 0));
        refused(-12, law -> law.shift(0, 0, 1, 0, 1));
        refused(-12, law -> law.shift(4, 0, 5, 0, -1));
        refused(-13, law -> law.shift(0, 0, 0, 1, 8));
        refused(-13, law -> law.shift(0, 1, 0, 0, 8));
        refused(-13, law -> law.shift(4, 0, 4, 1, -1));
        refused(-13, law -> law.shift(4, -1, 4, 0, 1));
        refused(-13, law -> law.shift(4, 0, 4, -1, 1));
        refused(-13, law -> law.shift(5, 0, 5, 3, 0));
    }

    private static void whatOnlyAsks() {
        due.by(7, "What is only asked changes nothing.");
        asks(law -> law.of(0, 0), law -> law.of(2, 3), law -> law.of(1, 4), law -> law.of(2, 5), law -> law.of(1, 10),
            law -> law.of(0, 20), law -> law.of(0, 21));
        due.by(8, "What is only asked changes nothing.");
        asks(law -> law.speaks(0, 1), law -> law.speaks(2, 444), law -> law.verdict(1, 0), law -> law.verdict(44, 1),
            law -> law.verdict(44, 2), law -> law.judge(0), Run::never, law -> law.clash(1, 0),
            law -> law.clash(10, 1));
        due.by(13, "What is only asked changes nothing.");
        asks(law -> law.write(0, 0, 1), law -> law.write(0, 99, 2), law -> law.bars(0, 0, 1), law -> law.bars(0, 99, 2),
            law -> law.falseOnes(0), law -> law.unlike(1, 0), law -> law.unlike(23, 1), Run::rings);
        due.by(15, "What is only asked changes nothing.");
        for (int what = 0; what < 2; what++) {
            int asked = what;
            asks(law -> law.meant(0, asked), law -> law.meant(1, asked), law -> law.meant(2, asked),
                law -> law.under(0, asked), law -> law.under(1, asked));
        }
        due.by(26, "What is only asked changes nothing.");
        asks(law -> law.trace(0), law -> law.trace(9), law -> law.element(0, 0), law -> law.element(4, 0),
            law -> law.taken(2, 6), law -> law.taken(2, 7));
        for (int what = 0; what <= 6; what++) {
            int asked = what;
            asks(law -> law.count(asked));
        }
    }

    private static void whatStaysAsItIs() {
        due.by(5, "becomes v: what it was (v already: nothing was changed)");
        int[][] same = {{0, 0, 15}, {1, 0, 20}, {2, 0, 90}, {0, 1, 1}, {0, 2, -1}, {1, 2, 0}, {0, 3, 0}, {0, 4, 80}};
        for (int[] each : same) {
            refused(each[2], law -> law.mend(each[0], each[1], each[2]));
        }
        due.by(31, "n elements .. come to .. the same from j on, as they all were before: n");
        refused(8, law -> law.shift(0, 0, 0, 0, 8));
        refused(0, law -> law.shift(0, 8, 0, 0, 0));
        refused(2, law -> law.shift(5, 0, 5, 0, 2));
        refused(1, law -> law.put(4, 0, 1L << 40));
        refused(1, law -> law.keep(3, -1));
        refused(1, law -> law.keep(2, 1));
        refused(1, law -> law.moved(2, -1, 7));
        refused(1, law -> law.moved(0, 2, 40));
    }

    private static void refusedWhenFull() {
        due.by(2, "FULL. What is answered so changes nothing.");
        refused(FULL, law -> law.feed('x'));
        refused(FULL, law -> law.feed(0));
        refused(BAD, law -> law.feed(256));
        due.by(3, "FULL: 10 (THE TAPE stays). What is answered so changes nothing.");
        refused(FULL, law -> law.law(0, 0));
        refused(BAD, law -> law.law(100, 0));
        refused(BAD, law -> law.law(0, 3));
        due.by(4, "LAWS are FULL: those ahead came");
        refused(0, law -> law.laws(1, 0, 1));
        refused(0, law -> law.laws(1, 0, 10));
        refused(BAD, law -> law.laws(1, 0, 11));
        due.by(24, "FULL. What is answered so changes nothing.");
        refused(FULL, law -> law.body(0));
        refused(FULL, law -> law.body(7));
        refused(BAD, law -> law.body(8));
    }

    private static void refusedWhenNew() {
        due.by(1, "No laws. What is answered so changes nothing.");
        refused(STATE, Run::undo);
        refused(STATE, Run::redo);
        refused(STATE, Run::back);
        refused(BAD, law -> law.under(0, 0));
        refused(BAD, law -> law.speaks(0, 0));
        refused(BAD, law -> law.clash(1, 0));
        refused(VOID, law -> law.mend(0, 0, 0));
        refused(VOID, law -> law.of(0, 0));
        refused(NOT, law -> law.verdict(0, 0));
        refused(-100, law -> law.law(0, 0));
        refused(0, Run::never);
        refused(0, Run::rings);
        refused(0, law -> law.act(0, 0, 5));
        refused(BAD, law -> law.trace(0));
        refused(BAD, law -> law.keep(0, 0));
        refused(1, law -> law.keep(0, -1));
        refused(0, law -> law.laws(0, 0, 1));
        refused(-11, law -> law.judge(0));
        refused(-11, law -> law.falseOnes(0));
        refused(-11, law -> law.put(0, 0, 1));
        refused(-11, law -> law.shift(0, 0, 0, 0, 0));
        refused(-11, law -> law.taken(0, 0));
        refused(NONE, law -> law.element(0, 0));
    }
}
