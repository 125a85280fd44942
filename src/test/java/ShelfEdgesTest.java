/** Promises 24 to 33, with Terms 4: a test for each sentence with an edge. */
public final class ShelfEdgesTest {
    private static final Due due = new Due();
    private static final int BAD = -1, FULL = -3, MIN = Integer.MIN_VALUE, MAX = Integer.MAX_VALUE;
    private static final long NONE = Long.MIN_VALUE;

    public static void main(String[] args) {
        kindsOfBodies();
        fiftyBodies();
        actsAndBodies();
        noTraceThen();
        theNumberOfABody();
        saysThatWraps();
        holdsThatWraps();
        beatsThatWraps();
        tellsThatWraps();
        placesOfTheTrace();
        theTraceOfTheLatest();
        bodiesKept();
        nothingKept();
        sortsAndSizesOfARow();
        sizesBelowZero();
        zerosAtFirst();
        placesPut();
        lowestBits();
        placesAsked();
        shelvesShifted();
        sortsShifted();
        placesShifted();
        asTheyAllWereBefore();
        kindsTaken();
        shelvesTaken();
        whatIsCounted();
        bodiesThatRan();
        due.end();
    }

    private static void kindsOfBodies() {
        due.by(24, "A BODY of a KIND (0 .. 7) is kept: its number. BAD");
        Run law = new Run();
        for (int kind : new int[] {-1, 8, 9, -8, MIN, MAX}) {
            due.is(law.body(kind), BAD);
        }
        due.is(law.count(5), 0);
        for (int kind = 0; kind < 8; kind++) {
            due.is(law.body(kind), kind);
            due.is(law.count(5), kind + 1);
            law.keep(0, kind);
            due.is(law.taken(0, 0), kind);
        }
    }

    private static void fiftyBodies() {
        due.by(24, "BODIES 0 .. 49 are kept by call. FULL");
        Run law = new Run();
        for (int k = 0; k < 49; k++) {
            due.is(law.body(7 - k % 8), k);
        }
        due.is(law.act(49, 0, 1), 0);
        due.is(law.keep(0, 49), BAD);
        due.is(law.body(1), 49);
        due.is(law.act(49, 0, 1), 53);
        due.is(law.keep(0, 49), 1);
        for (int kind = -1; kind <= 8; kind++) {
            due.is(law.body(kind), kind < 0 || kind > 7 ? BAD : FULL);
        }
        due.is(law.count(5), 50);
        due.is(law.act(50, 0, 1), 0);
        due.is(law.act(0, 0, 1), 1 * 2 - 1);
        due.is(law.taken(0, 1), 1);
    }

    private static void actsAndBodies() {
        due.by(25, "An ACT (0 .. 3) of a BODY with x. 0, and no TRACE then: no such BODY, ACT.");
        Run law = new Run();
        due.is(law.act(0, 0, 5), 0);
        due.is(law.count(6), 0);
        law.body(0);
        law.body(0);
        int[] want = {8, 16, 6, 16};
        for (int act = -2; act <= 5; act++) {
            due.is(law.act(1, act, 7), act >= 0 && act <= 3 ? want[act] : 0);
            due.is(law.count(6), act >= 0 && act <= 3 ? new int[] {1, 2, 1, 4}[act] : 0);
        }
        for (int body : new int[] {-1, 2, 49, 50, MIN, MAX}) {
            due.is(law.act(body, 0, 7), 0);
            due.is(law.act(body, 4, 7), 0);
        }
        for (int act : new int[] {MIN, MAX}) {
            due.is(law.act(1, act, 7), 0);
        }
    }

    private static void noTraceThen() {
        due.by(25, "0, and no TRACE then: no such BODY, ACT.");
        int[][] none = {{1, 0}, {-1, 0}, {0, 4}, {0, -1}, {50, 3}, {MIN, MAX}};
        for (int[] each : none) {
            Run law = new Run();
            law.body(5);
            law.act(0, 3, 1);
            due.is(law.count(6), 10);
            due.is(law.trace(0), 61);
            due.is(law.act(each[0], each[1], 1), 0);
            due.is(law.count(6), 0);
            due.is(law.trace(0), BAD);
            due.is(law.trace(9), BAD);
        }
    }

    private static void theNumberOfABody() {
        due.by(25, "n its number");
        Run law = new Run();
        for (int k = 0; k < 50; k++) {
            law.body(0);
        }
        for (int k : new int[] {0, 1, 31, 48, 49}) {
            due.is(law.act(k, 0, 1000), 1000 + k);
            due.is(law.act(k, 1, 1000), 2000 + 2 * k);
            due.is(law.act(k, 2, 1000), 1000 ^ k);
            due.is(law.act(k, 3, 1000), 2000 + 2 * k - (1 ^ k));
        }
    }

    /** A program with one body of each kind: the body's number is its kind. */
    private static Run ofEachKind() {
        Run law = new Run();
        for (int kind = 0; kind < 8; kind++) {
            law.body(kind);
        }
        return law;
    }

    private static final int[] FAR = {0, 1, -1, 5, -7, MAX, MAX - 1, MAX - 7, MIN, MIN + 1, MIN + 7, 1 << 30,
        -(1 << 30), 0x55555555, 0xaaaaaaaa};

    private static int says(int kind, int x) {
        int plain = x + kind;
        return kind == 1 || kind == 4 ? plain + 3 : kind == 6 ? plain * 2 : kind == 7 ? plain * 2 - 1 : plain;
    }

    private static int beats(int kind, int x) {
        int plain = x ^ kind;
        return kind == 3 ? plain * 3 : kind == 5 ? plain * 3 - says(5, 2) : plain;
    }

    private static int holds(int kind, int x) {
        switch (kind) {
            case 2: return -(says(2, x) * 2);
            case 3:
            case 5: return -(says(kind, x + 1) * 2);
            case 7: return says(7, x) * 2 + beats(7, 2);
            default: return says(kind, x) * 2;
        }
    }

    private static void saysThatWraps() {
        due.by(25, "x (an int that wraps): 0 says");
        Run law = ofEachKind();
        for (int kind = 0; kind < 8; kind++) {
            for (int x : FAR) {
                due.is(law.act(kind, 0, x), says(kind, x));
            }
        }
    }

    private static void holdsThatWraps() {
        due.by(25, "x (an int that wraps): 1 holds");
        Run law = ofEachKind();
        for (int kind = 0; kind < 8; kind++) {
            for (int x : FAR) {
                due.is(law.act(kind, 1, x), holds(kind, x));
            }
        }
    }

    private static void beatsThatWraps() {
        due.by(25, "x (an int that wraps): 2 beats");
        Run law = ofEachKind();
        for (int kind = 0; kind < 8; kind++) {
            for (int x : FAR) {
                due.is(law.act(kind, 2, x), beats(kind, x));
            }
        }
    }

    private static void tellsThatWraps() {
        due.by(25, "x (an int that wraps): 3 tells");
        Run law = ofEachKind();
        for (int kind = 0; kind < 8; kind++) {
            for (int x : FAR) {
                int plain = holds(kind, x) - beats(kind, 1);
                due.is(law.act(kind, 3, x), kind == 4 ? plain ^ 5 : kind == 5 ? plain + 1 : plain);
            }
        }
    }

    private static void placesOfTheTrace() {
        due.by(26, "THE TRACE's i-th body. BAD. (the first 24 are kept)");
        Run law = ofEachKind();
        due.is(law.trace(0), BAD);
        int[][] tells = {{2, 10, 1, 11}, {2, 10, 20, 1, 11}, {2, 30, 10, 1, 11}, {2, 41, 30, 10, 1, 40, 11},
            {50, 2, 10, 20, 1, 11}, {61, 2, 41, 30, 10, 1, 60, 40, 11, 1}, {2, 10, 70, 1, 11},
            {2, 80, 10, 81, 70, 1, 11, 11}};
        for (int kind = 0; kind < 8; kind++) {
            law.act(kind, 3, 9);
            due.is(law.count(6), tells[kind].length);
            for (int i = 0; i < tells[kind].length; i++) {
                due.is(law.trace(i), tells[kind][i]);
            }
            for (int i : new int[] {-1, tells[kind].length, 23, 24, 25, 60, MIN, MAX}) {
                due.is(law.trace(i), BAD);
            }
        }
    }

    private static void theTraceOfTheLatest() {
        due.by(26, "numbers of the bodies that ran in the latest act(), as they began");
        Run law = ofEachKind();
        law.act(5, 3, 1);
        law.act(7, 0, 1);
        due.is(law.count(6), 3);
        int[] trace = {81, 70, 1, BAD, BAD};
        for (int i = 0; i < 5; i++) {
            due.is(law.trace(i), trace[i]);
        }
        law.act(5, 2, 1);
        int[] next = {60, 40, 11, 1, BAD};
        for (int i = 0; i < 5; i++) {
            due.is(law.trace(i), next[i]);
        }
        law.body(0);
        law.body(8);
        law.mend(0, 3, 1);
        due.is(law.trace(0), 60);
        due.is(law.count(6), 4);
        law.act(8, 2, 1);
        due.is(law.trace(0), 11);
        due.is(law.trace(1), BAD);
    }

    // shelves

    private static void bodiesKept() {
        due.by(27, "SHELVES 0 .. 5 each hold .. A SHELF holds .. a BODY: 1. BAD.");
        Run law = new Run();
        for (int body : new int[] {0, 1, -2, 49, 50, MIN, MAX}) {
            due.is(law.keep(0, body), BAD);
        }
        law.body(3);
        law.body(6);
        for (int shelf = 0; shelf < 6; shelf++) {
            due.is(law.keep(shelf, shelf % 2), 1);
            due.is(law.taken(shelf, 0), shelf % 2 == 0 ? 3 : 6);
        }
        for (int shelf : new int[] {-1, 6, MIN, MAX}) {
            due.is(law.keep(shelf, 0), BAD);
            due.is(law.keep(shelf, -1), BAD);
        }
        for (int body : new int[] {2, -2, 50, MIN, MAX}) {
            due.is(law.keep(0, body), BAD);
        }
        for (int shelf = 0; shelf < 6; shelf++) {
            due.is(law.taken(shelf, 0), shelf % 2 == 0 ? 3 : 6);
        }
    }

    private static void nothingKept() {
        due.by(27, "A SHELF holds nothing (body -1): 1.");
        Run law = new Run();
        for (int shelf = 0; shelf < 6; shelf++) {
            due.is(law.keep(shelf, -1), 1);
            due.is(law.put(shelf, 0, 1), -11);
        }
        law.row(0, Due.LONGS, 1);
        law.put(0, 0, 9);
        due.is(law.keep(0, -1), 1);
        due.is(law.put(0, 0, 1), -11);
        due.is(law.element(0, 0), NONE);
        due.is(law.taken(0, 0), -11);
        law.row(0, Due.LONGS, 1);
        due.is(law.element(0, 0), 0);
    }

    private static void sortsAndSizesOfARow() {
        due.by(28, "a ROW: of 0 bytes, 1 shorts, 2 ints, 3 longs, 4 booleans, of 0 .. 60 elements. BAD (sort, n"
            + " above 60)");
        Run law = new Run();
        for (int sort = 0; sort < 5; sort++) {
            for (int n : new int[] {0, 1, 59, 60}) {
                due.is(law.row(0, sort, n), 1);
                due.is(law.put(0, n, 1), -13);
                due.is(law.put(0, n - 1, 1), n > 0 ? 1 : -13);
            }
            for (int n : new int[] {61, 62, 100, MAX}) {
                due.is(law.row(0, sort, n), BAD);
            }
            due.is(law.element(0, 59), 1);
        }
        for (int sort : new int[] {-1, 5, 6, MIN, MAX}) {
            due.is(law.row(0, sort, 1), BAD);
            due.is(law.row(0, sort, 61), BAD);
        }
        for (int shelf : new int[] {-1, 6, MIN, MAX}) {
            due.is(law.row(shelf, 0, 1), BAD);
            due.is(law.row(shelf, 0, 61), BAD);
        }
        due.is(law.element(0, 59), 1);
    }

    private static void sizesBelowZero() {
        due.by(28, "BAD (sort, n above 60); -14 (a size below 0).");
        Run law = new Run();
        law.row(0, 3, 2);
        law.put(0, 1, 7);
        for (int n : new int[] {-1, -2, -60, -61, MIN}) {
            due.is(law.row(0, 0, n), -14);
            due.is(law.row(1, 4, n), -14);
            due.is(law.row(0, 5, n), BAD);
            due.is(law.row(0, -1, n), BAD);
            due.is(law.row(6, 0, n), BAD);
            due.is(law.row(-1, 0, n), BAD);
        }
        due.is(law.element(0, 1), 7);
        due.is(law.put(1, 0, 1), -11);
    }

    private static void zerosAtFirst() {
        due.by(28, "0 at first (false)");
        Run law = new Run();
        for (int sort = 0; sort < 5; sort++) {
            law.row(0, sort, 5);
            for (int i = 0; i < 5; i++) {
                due.is(law.element(0, i), 0);
                law.put(0, i, -1);
            }
            law.row(0, sort, 3);
            due.is(law.element(0, 2), 0);
            due.is(law.element(0, 3), NONE);
            law.row(0, sort, 5);
            due.is(law.element(0, 4), 0);
            law.put(0, 4, -1);
        }
    }

    private static void placesPut() {
        due.by(29, "Element i of a ROW becomes v: 1. BAD, -11, -12, -13.");
        Run law = new Run();
        law.body(0);
        law.keep(1, 0);
        law.row(2, Due.INTS, 3);
        law.row(3, Due.INTS, 0);
        law.row(4, Due.INTS, 60);
        for (int i : new int[] {0, -1, 3, MIN, MAX}) {
            due.is(law.put(-1, i, 1), BAD);
            due.is(law.put(6, i, 1), BAD);
            due.is(law.put(0, i, 1), -11);
            due.is(law.put(1, i, 1), -12);
            due.is(law.put(2, i, 1), i == 0 ? 1 : -13);
            due.is(law.put(3, i, 1), -13);
        }
        due.is(law.put(2, 2, 8), 1);
        due.is(law.element(2, 1), 0);
        due.is(law.element(2, 2), 8);
        due.is(law.put(4, 59, 1), 1);
        due.is(law.put(4, 60, 1), -13);
        due.is(law.put(MIN, 0, 1), BAD);
        due.is(law.put(MAX, 0, 1), BAD);
    }

    private static void lowestBits() {
        due.by(29, "what is put in keeps its lowest bits (a boolean: whether it is not 0; 1 or 0)");
        long[] given = {0, 1, -1, 2, 127, 128, 129, 255, 256, -128, -129, 32767, 32768, 65535, 65536, -32768, -32769,
            MAX, MAX + 1L, MIN, MIN - 1L, 1L << 32, (1L << 32) - 1, 1L << 40, 1L << 63, Long.MAX_VALUE};
        Run law = new Run();
        for (int sort = 0; sort < 5; sort++) {
            law.row(0, sort, 1);
            for (long v : given) {
                long[] want = {(byte) v, (short) v, (int) v, v, v == 0 ? 0 : 1};
                due.is(law.put(0, 0, v), 1);
                due.is(law.element(0, 0), want[sort]);
            }
        }
    }

    private static void placesAsked() {
        due.by(30, "Element i of a ROW; Long.MIN_VALUE: BAD, -11 to -13.");
        Run law = new Run();
        law.body(0);
        law.keep(1, 0);
        Due.row(law, 2, Due.LONGS, 5, 6, 7);
        law.row(3, Due.LONGS, 0);
        law.row(4, Due.LONGS, 60);
        for (int i : new int[] {0, -1, 3, 60, MIN, MAX}) {
            due.is(law.element(-1, i), NONE);
            due.is(law.element(6, i), NONE);
            due.is(law.element(0, i), NONE);
            due.is(law.element(1, i), NONE);
            due.is(law.element(2, i), i == 0 ? 5 : NONE);
            due.is(law.element(3, i), NONE);
        }
        due.is(law.element(2, 2), 7);
        due.is(law.element(4, 59), 0);
        due.is(law.element(4, 60), NONE);
        due.is(law.element(MIN, 0), NONE);
        due.is(law.element(MAX, 0), NONE);
    }

    private static Run withSomeShelves() {
        Run law = new Run();
        law.body(0);
        Due.row(law, 0, Due.INTS, 1, 2, 3, 4, 5);
        Due.row(law, 1, Due.INTS, 6, 7, 8);
        law.row(2, Due.LONGS, 5);
        law.keep(3, 0);
        return law;
    }

    private static void shelvesShifted() {
        due.by(31, "BAD, -11 (either), -12 (no ROWS, or of unlike sorts)");
        Run law = withSomeShelves();
        for (int bad : new int[] {-1, 6, MIN, MAX}) {
            for (int shelf = 0; shelf < 6; shelf++) {
                due.is(law.shift(bad, 0, shelf, 0, 1), BAD);
                due.is(law.shift(shelf, 0, bad, 0, 1), BAD);
            }
            due.is(law.shift(bad, -1, bad, -1, -1), BAD);
        }
        for (int shelf = 0; shelf < 6; shelf++) {
            due.is(law.shift(4, 0, shelf, 0, 1), -11);
            due.is(law.shift(shelf, 0, 4, 0, 1), -11);
            due.is(law.shift(shelf, -1, 5, 99, -1), -11);
        }
        for (int shelf = 0; shelf < 4; shelf++) {
            due.is(law.shift(3, 0, shelf, 0, 1), -12);
            due.is(law.shift(shelf, 0, 3, 0, 0), -12);
            due.is(law.shift(3, -1, shelf, 99, -1), -12);
        }
        due.is(law.shift(0, 0, 2, 0, 1), -12);
        due.is(law.shift(2, 9, 1, 9, -9), -12);
    }

    private static void sortsShifted() {
        due.by(31, "-12 (no ROWS, or of unlike sorts)");
        for (int sort = 0; sort < 5; sort++) {
            Run law = new Run();
            for (int other = 0; other < 5; other++) {
                law.row(0, sort, 2);
                law.put(0, 0, 1);
                law.row(1, other, 2);
                law.put(1, 1, 1);
                due.is(law.shift(0, 0, 1, 1, 1), sort == other ? 1 : -12);
                due.is(law.shift(0, 1, 1, 0, 1), sort == other ? 1 : -12);
                due.is(law.element(1, 1), 1);
                due.is(law.element(1, 0), 0);
            }
        }
    }

    private static void placesShifted() {
        due.by(31, "n elements of a ROW from i on come to another one from j on: n. -13 (n below 0, too).");
        for (int i = -1; i <= 6; i++) {
            for (int j = -1; j <= 4; j++) {
                Run law = withSomeShelves();
                for (int n = -1; n <= 6; n++) {
                    boolean so = i >= 0 && j >= 0 && n >= 0 && i + n <= 5 && j + n <= 3;
                    due.is(law.shift(0, i, 1, j, n), so ? n : -13);
                }
            }
        }
        Run law = withSomeShelves();
        int[][] far = {{MIN, 0, 1}, {0, MIN, 1}, {0, 0, MIN}, {MAX, 0, 1}, {0, MAX, 1}, {0, 0, MAX}, {1, 1, MAX},
            {MAX, MAX, MAX}, {MAX, 0, 0}, {0, MAX, 0}, {MIN, MIN, MIN}, {MIN, 0, MAX}, {MAX, 1, MIN}, {5, 3, MIN}};
        for (int[] each : far) {
            due.is(law.shift(0, each[0], 1, each[1], each[2]), -13);
        }
        for (int k = 0; k < 3; k++) {
            due.is(law.element(1, k), 6 + k);
        }
        due.is(law.shift(0, 5, 1, 3, 0), 0);
        due.is(law.shift(0, 6, 1, 3, 0), -13);
        due.is(law.shift(0, 5, 1, 4, 0), -13);
        law.row(4, Due.INTS, 0);
        law.row(5, Due.INTS, 60);
        due.is(law.shift(4, 0, 4, 0, 0), 0);
        due.is(law.shift(4, 0, 4, 0, 1), -13);
        due.is(law.shift(5, 0, 5, 0, 60), 60);
        due.is(law.shift(5, 0, 5, 0, 61), -13);
        due.is(law.shift(5, 1, 5, 0, 60), -13);
    }

    private static void asTheyAllWereBefore() {
        due.by(31, "come to another one (or the same) from j on, as they all were before: n");
        for (int i = 0; i <= 5; i++) {
            for (int j = 0; j <= 5; j++) {
                int n = 5 - Math.max(i, j);
                Run law = withSomeShelves();
                due.is(law.shift(0, i, 0, j, n), n);
                for (int k = 0; k < 5; k++) {
                    due.is(law.element(0, k), k >= j && k < j + n ? k - j + i + 1 : k + 1);
                }
            }
        }
        Run law = withSomeShelves();
        due.is(law.shift(0, 2, 1, 1, 2), 2);
        long[] want = {6, 3, 4};
        for (int k = 0; k < 3; k++) {
            due.is(law.element(1, k), want[k]);
        }
        for (int k = 0; k < 5; k++) {
            due.is(law.element(0, k), k + 1);
        }
        due.is(law.shift(1, 0, 0, 2, 3), 3);
        long[] next = {1, 2, 6, 3, 4};
        for (int k = 0; k < 5; k++) {
            due.is(law.element(0, k), next[k]);
        }
    }

    private static void kindsTaken() {
        due.by(32, "What a SHELF holds, taken for a BODY of KIND k (0 .. 7), or under it: its KIND. BAD, -11, -12.");
        int[] above = {-1, 0, 0, 2, 1, 3, 0, 6};
        Run law = ofEachKind();
        for (int kind = 0; kind < 8; kind++) {
            law.keep(5, kind);
            for (int k = 0; k < 8; k++) {
                boolean under = false;
                for (int at = kind; at >= 0; at = above[at]) {
                    under |= at == k;
                }
                due.is(law.taken(5, k), under ? kind : -12);
            }
            for (int k : new int[] {-1, 8, MIN, MAX}) {
                due.is(law.taken(5, k), BAD);
            }
        }
    }

    private static void shelvesTaken() {
        due.by(32, "BAD, -11, -12.");
        Run law = ofEachKind();
        for (int shelf : new int[] {-1, 6, MIN, MAX}) {
            due.is(law.taken(shelf, 0), BAD);
            due.is(law.taken(shelf, 8), BAD);
        }
        for (int shelf = 0; shelf < 6; shelf++) {
            due.is(law.taken(shelf, 0), -11);
            due.is(law.taken(shelf, 7), -11);
            due.is(law.taken(shelf, 8), BAD);
            due.is(law.taken(shelf, -1), BAD);
            for (int sort = 0; sort < 5; sort++) {
                law.row(shelf, sort, sort);
                due.is(law.taken(shelf, 0), -12);
                due.is(law.taken(shelf, 8), BAD);
            }
        }
    }

    private static void whatIsCounted() {
        due.by(33, "How many: 0 LAWS, 1 LAWS that are there, 2 LAWS that STAND, 3 bytes on THE TAPE, 4 changes,"
            + " 5 BODIES, 6 bodies that ran. BAD.");
        Run law = new Run();
        for (int what : new int[] {-1, 7, 8, 10, MIN, MAX}) {
            due.is(law.count(what), BAD);
        }
        for (int k = 0; k < 10; k++) {
            Due.law(law, "1", 10 * k, 1);
        }
        law.mend(0, 2, 1);
        law.mend(2, 2, 3);
        law.mend(4, 2, 9);
        int[] there = {10, 9, 1}, stand = {7, 7, 1}, today = {90, 89, 9};
        for (int k = 0; k < 3; k++) {
            law.mend(0, 4, today[k]);
            due.is(law.count(0), 10);
            due.is(law.count(1), there[k]);
            due.is(law.count(2), stand[k]);
            due.is(law.count(4), 4 + k);
        }
        for (int what : new int[] {-1, 7, MIN, MAX}) {
            due.is(law.count(what), BAD);
        }
        due.is(law.count(3), 0);
        due.is(law.feed(0), 1);
        due.is(law.count(3), 1);
        law.body(0);
        due.is(law.count(5), 1);
    }

    private static void bodiesThatRan() {
        due.by(33, "6 bodies that ran in the latest act() (all, kept or not)");
        Run law = ofEachKind();
        int[][] ran = {{1, 2, 1, 4}, {2, 3, 1, 5}, {1, 3, 1, 5}, {1, 4, 2, 7}, {2, 3, 1, 6}, {1, 4, 4, 10},
            {2, 3, 1, 5}, {3, 6, 1, 8}};
        due.is(law.count(6), 0);
        for (int kind = 0; kind < 8; kind++) {
            for (int act = 0; act < 4; act++) {
                law.act(kind, act, 3);
                due.is(law.count(6), ran[kind][act]);
            }
        }
        law.act(8, 0, 3);
        due.is(law.count(6), 0);
    }
}
