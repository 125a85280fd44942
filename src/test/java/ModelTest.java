import java.util.Random;

/**
 * Runs of calls, told by numbers from a seed, on the program and on the model: each answer must be the same.
 * With arguments: how many runs, and the first seed.
 */
public final class ModelTest {
    private static final String[] NAMES = {"feed", "law", "laws", "mend", "moved", "of", "speaks", "verdict", "judge",
        "never", "clash", "write", "bars", "meant", "falseOnes", "under", "unlike", "rings", "image", "back", "undo",
        "redo", "body", "act", "trace", "keep", "row", "put", "element", "shift", "taken", "count"};
    private static final int[] PROMISES = {2, 3, 4, 5, 6, 7, 8, 9, 10, 11, 12, 13, 14, 15, 16, 17, 18, 19, 20, 21, 22,
        23, 24, 25, 26, 27, 28, 29, 30, 31, 32, 33};
    // how often a call comes; the model is slow at what has many cases or many sets
    private static final int[] SHARES = {3, 5, 4, 30, 10, 12, 6, 10, 12, 4, 6, 6, 6, 5, 4, 6, 5, 6, 5, 5, 9,
        9, 4, 6, 6, 4, 8, 20, 8, 8, 5, 12};

    private final Due due;
    private final Random random;
    private final OldestLaw law = new OldestLaw();
    private final Model model = new Model();
    private int calls = 0;

    private ModelTest(Due due, long seed) {
        this.due = due;
        this.random = new Random(seed);
    }

    public static void main(String[] args) {
        int runs = args.length > 0 ? Integer.parseInt(args[0]) : 100;
        long first = args.length > 1 ? Long.parseLong(args[1]) : 1;
        Due due = new Due();
        for (long seed = first; seed < first + runs; seed++) {
            new ModelTest(due, seed).run();
        }
        due.end();
    }

    private int any(int low, int high) {
        return low + random.nextInt(high - low + 1);
    }

    /** Mostly from low to high, now and then a bit beyond, or far beyond. */
    private int some(int low, int high) {
        switch (any(0, 79)) {
            case 0: return low - 1;
            case 1: return high + 1;
            case 2: return random.nextInt();
            case 3: return any(0, 1) == 0 ? Integer.MAX_VALUE : Integer.MIN_VALUE;
            default: return any(low, high);
        }
    }

    private int someCase() {
        return any(0, 15) == 0 ? some(0, 460) : 100 * any(0, 4) + 10 * any(0, 4) + any(0, 4);
    }

    private String expression(int depth) {
        int kind = any(0, depth <= 0 ? 1 : 12);
        if (kind > 9) {
            return "" + "xyz".charAt(any(0, 2)) + "<=>".charAt(any(0, 2)) + any(0, 4);
        }
        if (kind == 0) {
            return Integer.toString(any(0, 3) == 0 ? any(0, 9999) : any(0, 4));
        }
        if (kind <= 2) {
            return "" + "xyzxyzxyzdtn".charAt(any(0, 11));
        }
        if (kind == 3) {
            return "!-".charAt(any(0, 1)) + expression(depth - 1);
        }
        if (kind == 4) {
            return "(" + expression(depth - 1) + ")";
        }
        return expression(depth - 1) + "|&<=>+-*/%".charAt(any(0, 9)) + expression(depth - 1);
    }

    private String text() {
        StringBuilder text = new StringBuilder();
        do {
            text.append(text.length() > 0 ? ";" : "").append(expression(any(0, 4)));
            text.append(any(0, 3) == 0 ? "?" + expression(any(0, 3)) : "");
        } while (any(0, 3) == 0);
        if (any(0, 5) == 0) {
            int at = any(0, text.length());
            text.replace(at, Math.min(text.length(), at + any(0, 2)), "" + "xyd19?;|&<=>+-*/%!()q".charAt(any(0, 20)));
        }
        return text.toString();
    }

    private void run() {
        int laws = any(0, 8);
        for (int k = 0; k < laws; k++) {
            tellLaw(any(0, 2) > 0 ? simpleText() : text());
        }
        while (calls < 512) {
            int pick = any(0, 199);
            if (pick < 3) {
                tellLaw(text());
            } else if (pick < 14) {
                tell(any(0, 3));
            } else if (pick < 20) {
                tellWorld(any(0, 3), withHidden(), 11);
            } else if (pick < 26) {
                tellWorld(any(0, 3), withoutSome(), any(0, 1) == 0 ? 14 : 8);
            } else {
                one(pickedByShare());
            }
        }
    }

    private String simpleText() {
        String one = "" + "xyz".charAt(any(0, 2)) + "<=>".charAt(any(0, 2)) + any(0, 4);
        String other = "" + "xyz".charAt(any(0, 2)) + "<=>".charAt(any(0, 2)) + any(0, 4);
        String[] texts = {"1", one, one, one + "&" + other, one + "|" + other, one + "?" + other + ";" + one};
        return texts[any(0, 5)];
    }

    private void tellLaw(String text) {
        for (int i = 0; i < text.length(); i++) {
            is(0, text.charAt(i), 0, 0, 0, 0);
        }
        is(1, some(0, 99), some(0, 2), 0, 0, 0);
        is(3, model.count(0) - 1, 2, any(-1, 9), 0, 0);
    }

    /** A row of what is so in the most of its cases, or of sixes for laws. */
    private void tell(int shelf) {
        boolean bytes = any(0, 3) == 0;
        int n = any(0, 12);
        is(26, shelf, bytes ? 0 : 1, n, 0, 0);
        for (int i = 0; i < n; i++) {
            int[] high = {99, 2, 9, 2, 2, 9};
            int v = bytes ? any(i % 6 == 2 ? -1 : 0, high[i % 6]) : someCase();
            if (!bytes && i % 2 == 1) {
                v = any(0, 5) == 0 ? any(-3, 3) : model.verdict((int) model.element(shelf, i - 1), 0);
            }
            is(27, shelf, i, v, v < 0 ? -1 : 0, 0);
        }
        if (bytes) {
            is(2, shelf, any(0, 2), any(1, 2), 0, 0);
        } else {
            int[] calls = {8, 11, 12, 14};
            int call = calls[any(0, 3)];
            is(call, shelf, call == 8 || call == 14 ? 0 : any(0, 99), any(0, 2), 0, 0);
        }
    }

    private int hiddenDate;
    private int hiddenSays;

    private Model.World withHidden() {
        hiddenDate = any(0, 99);
        hiddenSays = any(0, 2);
        String one = "" + "xyz".charAt(any(0, 2)) + "<=>".charAt(any(0, 2)) + any(0, 4);
        String other = "" + "xyz".charAt(any(0, 2)) + "<=>".charAt(any(0, 2)) + any(0, 4);
        return model.worldWith(any(0, 1) == 0 ? one : one + "&" + other, hiddenDate, hiddenSays);
    }

    private Model.World withoutSome() {
        return model.worldWithout(random.nextInt() & random.nextInt() & random.nextInt());
    }

    /** A row of verdicts of another world, mostly; then it is asked what leads there. */
    private void tellWorld(int shelf, Model.World other, int call) {
        int n = call == 11 ? any(2, 16) : any(1, 5);
        is(26, shelf, 1, 2 * n, 0, 0);
        for (int k = 0; k < n; k++) {
            int kase = 100 * any(0, 4) + 10 * any(0, 4) + any(0, 4);
            int v = any(0, 30) == 0 ? any(-3, 3) : other.verdict(kase);
            is(27, shelf, 2 * k, kase, 0, 0);
            is(27, shelf, 2 * k + 1, v, v < 0 ? -1 : 0, 0);
        }
        if (call == 11) {
            is(11, shelf, hiddenDate, hiddenSays, 0, 0);
            is(12, shelf, hiddenDate, hiddenSays, 0, 0);
        } else {
            is(call, shelf, 0, 0, 0, 0);
        }
    }

    private int pickedByShare() {
        int sum = 0;
        for (int share : SHARES) {
            sum += share;
        }
        int at = any(0, sum - 1), call = 0;
        while (at >= SHARES[call]) {
            at -= SHARES[call];
            call++;
        }
        return call;
    }

    private void one(int call) {
        int last = Math.max(0, model.count(0) - 1);
        int shelf = some(0, 5), what = some(0, 1), number = some(0, last);
        switch (call) {
            case 0: is(call, some(0, 255), 0, 0, 0, 0); break;
            case 1: is(call, some(0, 99), some(0, 2), 0, 0, 0); break;
            case 2: is(call, shelf, some(0, 12), some(1, 10), 0, 0); break;
            case 3: mend(); break;
            case 4: is(call, some(0, 2), some(-1, 2), some(0, 99), 0, 0); break;
            case 5: ask(number); break;
            case 6: is(call, number, someCase(), 0, 0, 0); break;
            case 7: is(call, someCase(), some(0, 2), 0, 0, 0); break;
            case 10: is(call, 10 * any(0, last) + number, what, 0, 0, 0); break;
            case 11:
            case 12: is(call, shelf, some(0, 99), some(0, 2), 0, 0); break;
            case 13: is(call, some(0, 2), what, 0, 0, 0); break;
            case 15: is(call, number, what, 0, 0, 0); break;
            case 16: is(call, 10 * any(0, 3) + some(0, 3), what, 0, 0, 0); break;
            case 21: is(20, 0, 0, 0, 0, 0); is(21, 0, 0, 0, 0, 0); break;
            case 22: is(call, some(0, 7), 0, 0, 0, 0); break;
            case 23: is(call, some(0, 12), some(0, 3), random.nextInt(), 0, 0); break;
            case 24: is(23, any(0, 5), any(0, 3), any(-9, 9), 0, 0); is(call, some(0, 5), 0, 0, 0, 0); break;
            case 25: is(call, shelf, some(-1, 3), 0, 0, 0); is(30, shelf, some(0, 7), 0, 0, 0); break;
            case 26: is(call, shelf, some(0, 4), some(0, 60), 0, 0); break;
            case 27: is(call, shelf, some(0, 20), random.nextInt(), any(-9, 9), 0); break;
            case 28: is(call, shelf, some(0, 20), 0, 0, 0); break;
            case 29: is(call, shelf, some(0, 20), some(0, 5), some(0, 20), some(0, 20)); break;
            case 30: is(call, shelf, some(0, 7), 0, 0, 0); break;
            case 31: is(call, some(0, 6), 0, 0, 0, 0); break;
            default: is(call, shelf, 0, 0, 0, 0); break;
        }
    }

    private void mend() {
        int what = some(0, 4);
        int high = what == 0 || what == 4 ? 99 : what == 1 ? 2 : what == 2 ? 9 : 3;
        int v = what == 4 && any(0, 2) > 0 ? any(70, 99) : some(what == 2 ? -1 : 0, high);
        is(3, what > 2 ? some(0, 0) : some(0, Math.max(0, model.count(0) - 1)), what, v, 0, 0);
    }

    private void ask(int number) {
        int[] others = {10, 10, 10, 20, 21, 22};
        boolean isLaw = any(0, 2) > 0;
        is(5, isLaw ? number : any(0, 2), isLaw ? some(0, 5) : others[any(0, 5)], 0, 0, 0);
    }

    private void is(int call, int a, int b, int c, int d, int e) {
        if (calls >= 512) {
            return;
        }
        calls++;
        String told = "call " + calls + ", " + NAMES[call] + "(" + a + ", " + b + ", " + c + ", " + d + ", " + e + ")";
        due.is(PROMISES[call], told, ofProgram(call, a, b, c, d, e), ofModel(call, a, b, c, d, e));
    }

    private long ofProgram(int call, int a, int b, int c, int d, int e) {
        switch (call) {
            case 0: return law.feed(a);
            case 1: return law.law(a, b);
            case 2: return law.laws(a, b, c);
            case 3: return law.mend(a, b, c);
            case 4: return law.moved(a, b, c);
            case 5: return law.of(a, b);
            case 6: return law.speaks(a, b);
            case 7: return law.verdict(a, b);
            case 8: return law.judge(a);
            case 9: return law.never();
            case 10: return law.clash(a, b);
            case 11: return law.write(a, b, c);
            case 12: return law.bars(a, b, c);
            case 13: return law.meant(a, b);
            case 14: return law.falseOnes(a);
            case 15: return law.under(a, b);
            case 16: return law.unlike(a, b);
            case 17: return law.rings();
            case 18: return law.image();
            case 19: return law.back();
            case 20: return law.undo();
            case 21: return law.redo();
            case 22: return law.body(a);
            case 23: return law.act(a, b, c);
            case 24: return law.trace(a);
            case 25: return law.keep(a, b);
            case 26: return law.row(a, b, c);
            case 27: return law.put(a, b, (long) d << 32 | c);
            case 28: return law.element(a, b);
            case 29: return law.shift(a, b, c, d, e);
            case 30: return law.taken(a, b);
            default: return law.count(a);
        }
    }

    private long ofModel(int call, int a, int b, int c, int d, int e) {
        switch (call) {
            case 0: return model.feed(a);
            case 1: return model.law(a, b);
            case 2: return model.laws(a, b, c);
            case 3: return model.mend(a, b, c);
            case 4: return model.moved(a, b, c);
            case 5: return model.of(a, b);
            case 6: return model.speaks(a, b);
            case 7: return model.verdict(a, b);
            case 8: return model.judge(a);
            case 9: return model.never();
            case 10: return model.clash(a, b);
            case 11: return model.write(a, b, c);
            case 12: return model.bars(a, b, c);
            case 13: return model.meant(a, b);
            case 14: return model.falseOnes(a);
            case 15: return model.under(a, b);
            case 16: return model.unlike(a, b);
            case 17: return model.rings();
            case 18: return model.image();
            case 19: return model.back();
            case 20: return model.undo();
            case 21: return model.redo();
            case 22: return model.body(a);
            case 23: return model.act(a, b, c);
            case 24: return model.trace(a);
            case 25: return model.keep(a, b);
            case 26: return model.row(a, b, c);
            case 27: return model.put(a, b, (long) d << 32 | c);
            case 28: return model.element(a, b);
            case 29: return model.shift(a, b, c, d, e);
            case 30: return model.taken(a, b);
            default: return model.count(a);
        }
    }
}
