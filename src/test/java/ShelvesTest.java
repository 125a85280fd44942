/** Promises 24 to 33: bodies and their acts, shelves with bodies and rows, what is counted. */
public final class ShelvesTest {
    private static final Due due = new Due();
    private static final long NONE = Long.MIN_VALUE;

    public static void main(String[] args) {
        bodiesKept();
        actsOfEachKind();
        actsThatWrap();
        noSuchAct();
        whatShelvesHold();
        rowsOfEachSort();
        placesOfARow();
        elementsShifted();
        refusalsOfAShift();
        bodiesTaken();
        whatIsCounted();
        due.end();
    }

    private static void bodiesKept() {
        Run law = new Run();
        due.is(24, "body(-1)", law.body(-1), -1);
        due.is(24, "body(8)", law.body(8), -1);
        for (int k = 0; k < 50; k++) {
            due.is(24, "body(" + k % 8 + ")", law.body(k % 8), k);
        }
        due.is(24, "body(0) of 51", law.body(0), -3);
        due.is(24, "body(8) of 51", law.body(8), -1);
        due.is(24, "count(5)", law.count(5), 50);
        for (int k = 0; k < 50; k++) {
            law.keep(0, k);
            due.is(24, "taken(0, 0) of " + k, law.taken(0, 0), k % 8);
        }
    }

    private static void acted(Run law, int body, int act, int x, int want, int... trace) {
        String call = "act(" + body + ", " + act + ", " + x + ")";
        due.is(25, call, law.act(body, act, x), want);
        due.is(33, call + ": count(6)", law.count(6), trace.length);
        for (int i = 0; i < trace.length; i++) {
            due.is(26, call + ": trace(" + i + ")", law.trace(i), trace[i]);
        }
        due.is(26, call + ": trace(" + trace.length + ")", law.trace(trace.length), -1);
        due.is(26, call + ": trace(-1)", law.trace(-1), -1);
    }

    /** Each kind stands twice, so that numbers are not kinds: body 10 + kind, and x is 100. */
    private static void actsOfEachKind() {
        Run law = new Run();
        for (int k = 0; k < 18; k++) {
            law.body(k < 10 ? 0 : k - 10);
        }
        acted(law, 10, 0, 100, 110, 1);
        acted(law, 10, 1, 100, 220, 10, 1);
        acted(law, 10, 2, 100, 100 ^ 10, 11);
        acted(law, 10, 3, 100, 220 - (1 ^ 10), 2, 10, 1, 11);
        acted(law, 11, 0, 100, 114, 20, 1);
        acted(law, 11, 1, 100, 228, 10, 20, 1);
        acted(law, 11, 2, 100, 100 ^ 11, 11);
        acted(law, 11, 3, 100, 228 - (1 ^ 11), 2, 10, 20, 1, 11);
        acted(law, 12, 0, 100, 112, 1);
        acted(law, 12, 1, 100, -224, 30, 10, 1);
        acted(law, 12, 2, 100, 100 ^ 12, 11);
        acted(law, 12, 3, 100, -224 - (1 ^ 12), 2, 30, 10, 1, 11);
        acted(law, 13, 0, 100, 113, 1);
        acted(law, 13, 1, 100, -228, 41, 30, 10, 1);
        acted(law, 13, 2, 100, (100 ^ 13) * 3, 40, 11);
        acted(law, 13, 3, 100, -228 - (1 ^ 13) * 3, 2, 41, 30, 10, 1, 40, 11);
        acted(law, 14, 0, 100, 117, 20, 1);
        acted(law, 14, 1, 100, 234, 10, 20, 1);
        acted(law, 14, 2, 100, 100 ^ 14, 11);
        acted(law, 14, 3, 100, 234 - (1 ^ 14) ^ 5, 50, 2, 10, 20, 1, 11);
        acted(law, 15, 0, 100, 115, 1);
        acted(law, 15, 1, 100, -232, 41, 30, 10, 1);
        acted(law, 15, 2, 100, (100 ^ 15) * 3 - 17, 60, 40, 11, 1);
        acted(law, 15, 3, 100, -232 - ((1 ^ 15) * 3 - 17) + 1, 61, 2, 41, 30, 10, 1, 60, 40, 11, 1);
        acted(law, 16, 0, 100, 232, 70, 1);
        acted(law, 16, 1, 100, 464, 10, 70, 1);
        acted(law, 16, 2, 100, 100 ^ 16, 11);
        acted(law, 16, 3, 100, 464 - (1 ^ 16), 2, 10, 70, 1, 11);
        acted(law, 17, 0, 100, 233, 81, 70, 1);
        acted(law, 17, 1, 100, 466 + (2 ^ 17), 80, 10, 81, 70, 1, 11);
        acted(law, 17, 2, 100, 100 ^ 17, 11);
        acted(law, 17, 3, 100, 466 + (2 ^ 17) - (1 ^ 17), 2, 80, 10, 81, 70, 1, 11, 11);
    }

    private static void actsThatWrap() {
        Run law = new Run();
        int max = Integer.MAX_VALUE, min = Integer.MIN_VALUE;
        for (int kind = 0; kind < 8; kind++) {
            law.body(kind);
        }
        acted(law, 1, 0, max, max + 4, 20, 1);
        acted(law, 0, 1, min, 0, 10, 1);
        acted(law, 3, 1, max, -(min + 3) * 2, 41, 30, 10, 1);
        acted(law, 3, 2, max, (max ^ 3) * 3, 40, 11);
        acted(law, 6, 0, max, (max + 6) * 2, 70, 1);
        acted(law, 2, 1, min, -(min + 2) * 2, 30, 10, 1);
        acted(law, 7, 1, -1, (6 * 2 - 1) * 2 + (2 ^ 7), 80, 10, 81, 70, 1, 11);
    }

    private static void noSuchAct() {
        Run law = new Run();
        acted(law, 0, 0, 7, 0);
        law.body(5);
        int[][] bad = {{1, 0}, {-1, 0}, {50, 0}, {0, 4}, {0, -1}, {Integer.MIN_VALUE, 0}, {0, Integer.MAX_VALUE}};
        for (int[] each : bad) {
            due.is(25, "act(0, 3, 1)", law.act(0, 3, 1), -4 - (1 * 3 - 2) + 1);
            due.is(33, "count(6)", law.count(6), 10);
            acted(law, each[0], each[1], 7, 0);
        }
        int[] places = {24, 25, Integer.MAX_VALUE, Integer.MIN_VALUE};
        law.act(0, 3, 1);
        for (int place : places) {
            due.is(26, "trace(" + place + ")", law.trace(place), -1);
        }
    }

    private static void whatShelvesHold() {
        Run law = new Run();
        law.body(6);
        law.body(4);
        due.is(27, "keep(0, 0)", law.keep(0, 0), 1);
        due.is(27, "taken(0, 0)", law.taken(0, 0), 6);
        due.is(27, "keep(0, 1)", law.keep(0, 1), 1);
        due.is(27, "taken(0, 0)", law.taken(0, 0), 4);
        due.is(27, "put(0, 0, 1) on a body", law.put(0, 0, 1), -12);
        int[][] bad = {{-1, 0}, {6, 0}, {6, -1}, {-1, -1}, {0, 2}, {0, -2}, {0, 50}};
        for (int[] each : bad) {
            due.is(27, "keep(" + each[0] + ", " + each[1] + ")", law.keep(each[0], each[1]), -1);
        }
        due.is(27, "taken(0, 0)", law.taken(0, 0), 4);
        due.is(27, "keep(0, -1)", law.keep(0, -1), 1);
        due.is(27, "taken(0, 0)", law.taken(0, 0), -11);
        due.is(27, "put(0, 0, 1)", law.put(0, 0, 1), -11);
        due.is(27, "keep(5, 1)", law.keep(5, 1), 1);
        due.is(28, "row(5, 3, 2) over a body", law.row(5, 3, 2), 1);
        due.is(27, "taken(5, 4)", law.taken(5, 4), -12);
        due.is(27, "keep(5, 1) over a row", law.keep(5, 1), 1);
        due.is(27, "element(5, 0)", law.element(5, 0), NONE);
        due.is(27, "taken(5, 4)", law.taken(5, 4), 4);
    }

    private static void rowsOfEachSort() {
        long[] given = {0, 1, -1, 127, 128, 255, 256, -129, 32767, 32768, 65536, 1L << 31, (1L << 31) - 1, 1L << 32,
            Long.MAX_VALUE, Long.MIN_VALUE, 7};
        Run law = new Run();
        for (int sort = 0; sort < 5; sort++) {
            due.is(28, "row(2, " + sort + ", 17)", law.row(2, sort, 17), 1);
            for (int i = 0; i < 17; i++) {
                due.is(28, "element(2, " + i + ") of sort " + sort, law.element(2, i), 0);
                due.is(29, "put(2, " + i + ", " + given[i] + ")", law.put(2, i, given[i]), 1);
            }
            for (int i = 0; i < 17; i++) {
                long v = given[i];
                long[] want = {(byte) v, (short) v, (int) v, v, v == 0 ? 0 : 1};
                due.is(30, "element(2, " + i + ") of sort " + sort, law.element(2, i), want[sort]);
            }
        }
        law.put(2, 0, 1);
        due.is(28, "row(2, 4, 17) anew", law.row(2, 4, 17), 1);
        for (int i = 0; i < 17; i++) {
            due.is(28, "element(2, " + i + ") anew", law.element(2, i), 0);
        }
    }

    private static void placesOfARow() {
        Run law = new Run();
        int[][] bad = {{-1, 0, 1}, {6, 0, 1}, {0, -1, 1}, {0, 5, 1}, {0, 0, 61}, {0, 5, -1}, {6, 0, -1}, {0, -1, -1},
            {0, 0, Integer.MAX_VALUE}};
        for (int[] each : bad) {
            due.is(28, "row(" + each[0] + ", " + each[1] + ", " + each[2] + ")",
                law.row(each[0], each[1], each[2]), -1);
        }
        due.is(28, "row(0, 0, -1)", law.row(0, 0, -1), -14);
        due.is(28, "row(0, 4, MIN)", law.row(0, 4, Integer.MIN_VALUE), -14);
        due.is(28, "put(0, 0, 1): nothing came", law.put(0, 0, 1), -11);
        due.is(29, "put(-1, 0, 1)", law.put(-1, 0, 1), -1);
        due.is(29, "put(6, 0, 1)", law.put(6, 0, 1), -1);
        due.is(30, "element(-1, 0)", law.element(-1, 0), NONE);
        due.is(30, "element(6, 0)", law.element(6, 0), NONE);
        due.is(30, "element(0, 0), bare", law.element(0, 0), NONE);
        law.row(0, 2, 3);
        int[] noPlaces = {-1, 3, 60, Integer.MIN_VALUE, Integer.MAX_VALUE};
        for (int i : noPlaces) {
            due.is(29, "put(0, " + i + ", 1)", law.put(0, i, 1), -13);
            due.is(30, "element(0, " + i + ")", law.element(0, i), NONE);
        }
        due.is(29, "put(0, 2, 9)", law.put(0, 2, 9), 1);
        due.is(30, "element(0, 2)", law.element(0, 2), 9);
        law.row(0, 2, 0);
        due.is(29, "put(0, 0, 1) of none", law.put(0, 0, 1), -13);
        law.row(0, 2, 60);
        due.is(30, "element(0, 2)", law.element(0, 2), 0);
        due.is(29, "put(0, 59, 1)", law.put(0, 59, 1), 1);
        due.is(29, "put(0, 60, 1)", law.put(0, 60, 1), -13);
        law.row(0, 2, -1);
        due.is(28, "element(0, 59): the row is as it was", law.element(0, 59), 1);
        law.body(0);
        law.keep(0, 0);
        due.is(29, "put(0, 99, 1) on a body", law.put(0, 99, 1), -12);
        due.is(30, "element(0, 0) of a body", law.element(0, 0), NONE);
    }

    private static void holds(Run law, int shelf, long... want) {
        for (int i = 0; i < want.length; i++) {
            due.is(31, "element(" + shelf + ", " + i + ")", law.element(shelf, i), want[i]);
        }
        due.is(31, "element(" + shelf + ", " + want.length + ")", law.element(shelf, want.length), NONE);
    }

    private static void elementsShifted() {
        Run law = new Run();
        Due.row(law, 0, Due.INTS, 1, 2, 3, 4, 5);
        Due.row(law, 1, Due.INTS, 9, 9, 9);
        due.is(31, "shift(0, 0, 0, 1, 4)", law.shift(0, 0, 0, 1, 4), 4);
        holds(law, 0, 1, 1, 2, 3, 4);
        due.is(31, "shift(0, 2, 0, 0, 3)", law.shift(0, 2, 0, 0, 3), 3);
        holds(law, 0, 2, 3, 4, 3, 4);
        due.is(31, "shift(0, 1, 1, 1, 2)", law.shift(0, 1, 1, 1, 2), 2);
        holds(law, 1, 9, 3, 4);
        holds(law, 0, 2, 3, 4, 3, 4);
        due.is(31, "shift(1, 3, 0, 5, 0)", law.shift(1, 3, 0, 5, 0), 0);
        due.is(31, "shift(0, 2, 0, 2, 3)", law.shift(0, 2, 0, 2, 3), 3);
        holds(law, 0, 2, 3, 4, 3, 4);
        Due.row(law, 2, Due.BOOLEANS, 1, 0, 5);
        Due.row(law, 3, Due.BOOLEANS, new long[60]);
        due.is(31, "shift(2, 0, 3, 57, 3)", law.shift(2, 0, 3, 57, 3), 3);
        due.is(31, "element(3, 57)", law.element(3, 57), 1);
        due.is(31, "element(3, 58)", law.element(3, 58), 0);
        due.is(31, "element(3, 59)", law.element(3, 59), 1);
        due.is(31, "shift(3, 0, 3, 0, 60)", law.shift(3, 0, 3, 0, 60), 60);
    }

    private static void shifted(Run law, int want, int shelf, int i, int other, int j, int n) {
        due.is(31, "shift(" + shelf + ", " + i + ", " + other + ", " + j + ", " + n + ")",
            law.shift(shelf, i, other, j, n), want);
    }

    private static void refusalsOfAShift() {
        Run law = new Run();
        int max = Integer.MAX_VALUE, min = Integer.MIN_VALUE;
        Due.row(law, 0, Due.INTS, 1, 2, 3, 4, 5);
        Due.row(law, 1, Due.INTS, 9, 9, 9);
        law.row(2, Due.LONGS, 5);
        law.body(3);
        law.keep(3, 0);
        shifted(law, -1, -1, 0, 0, 0, 1);
        shifted(law, -1, 0, 0, 6, 0, 1);
        shifted(law, -1, 6, 0, 4, 0, -1);
        shifted(law, -11, 0, 0, 4, 0, 1);
        shifted(law, -11, 4, 0, 0, 0, 1);
        shifted(law, -11, 4, 0, 4, 0, 1);
        shifted(law, -11, 3, 0, 4, 0, -1);
        shifted(law, -11, 4, 0, 3, 0, -1);
        shifted(law, -12, 0, 0, 2, 0, -1);
        shifted(law, -12, 2, 0, 0, 0, 1);
        shifted(law, -12, 0, 0, 3, 0, 1);
        shifted(law, -12, 3, 0, 0, 0, 1);
        shifted(law, -12, 3, 0, 3, 0, 0);
        int[][] noPlaces = {{0, 0, -1}, {0, 0, 4}, {0, 1, 3}, {3, 0, 3}, {5, 0, 1}, {6, 0, 0}, {0, 4, 0}, {-1, 0, 1},
            {0, -1, 1}, {-1, 0, 0}, {0, -1, 0}, {max, 0, 1}, {0, max, 1}, {1, 1, max}, {max, max, max}, {min, 0, 1},
            {0, min, min}, {1, 1, min}};
        for (int[] each : noPlaces) {
            shifted(law, -13, 0, each[0], 1, each[1], each[2]);
        }
        shifted(law, -13, 1, 0, 0, 0, 4);
        holds(law, 0, 1, 2, 3, 4, 5);
        holds(law, 1, 9, 9, 9);
        shifted(law, 3, 0, 2, 1, 0, 3);
        holds(law, 1, 3, 4, 5);
    }

    private static void bodiesTaken() {
        Run law = new Run();
        int[] under = {0b1, 0b11, 0b101, 0b1101, 0b10011, 0b101101, 0b1000001, 0b11000001};
        for (int kind = 0; kind < 8; kind++) {
            law.keep(4, law.body(kind));
            for (int k = 0; k < 8; k++) {
                due.is(32, "taken(4, " + k + ") of kind " + kind, law.taken(4, k),
                    (under[kind] >> k & 1) == 1 ? kind : -12);
            }
            due.is(32, "taken(4, 8)", law.taken(4, 8), -1);
            due.is(32, "taken(4, -1)", law.taken(4, -1), -1);
        }
        due.is(32, "taken(6, 0)", law.taken(6, 0), -1);
        due.is(32, "taken(-1, 0)", law.taken(-1, 0), -1);
        due.is(32, "taken(0, 0)", law.taken(0, 0), -11);
        due.is(32, "taken(0, 8)", law.taken(0, 8), -1);
        for (int sort = 0; sort < 5; sort++) {
            law.row(0, sort, 1);
            due.is(32, "taken(0, 0) of sort " + sort, law.taken(0, 0), -12);
        }
    }

    private static void whatIsCounted() {
        Run law = new Run();
        for (int k = 0; k < 4; k++) {
            Due.law(law, "1", 10 * k, 1);
        }
        law.mend(0, 2, 1);
        law.mend(2, 2, 3);
        law.mend(0, 4, 29);
        Due.feed(law, "x<");
        law.body(0);
        law.body(0);
        law.body(7);
        law.act(2, 3, 0);
        int[] want = {4, 3, 2, 2, 3, 3, 8};
        for (int what = 0; what < 7; what++) {
            due.is(33, "count(" + what + ")", law.count(what), want[what]);
        }
        due.is(33, "count(7)", law.count(7), -1);
        due.is(33, "count(-1)", law.count(-1), -1);
        law.mend(0, 4, 30);
        due.is(33, "count(1)", law.count(1), 4);
        due.is(33, "count(2)", law.count(2), 2);
        law.mend(2, 2, -1);
        due.is(33, "count(2)", law.count(2), 3);
    }
}
