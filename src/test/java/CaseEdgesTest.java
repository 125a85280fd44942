/** Promises 8 to 12, with Terms 2: a test for each sentence with an edge. */
public final class CaseEdgesTest {
    private static final Due due = new Due();
    private static final int BAD = -1, NOT = -2, MIN = Integer.MIN_VALUE, MAX = Integer.MAX_VALUE;

    public static void main(String[] args) {
        whatIsACase();
        whatIsNoCase();
        lawsThatSpeak();
        whatIsAsked();
        noneSpeaks();
        theOldest();
        theNewest();
        theNarrowest();
        theKindest();
        whoIsBeaten();
        shelvesJudged();
        rowsOfFewElements();
        anEndThatLacks();
        rowsOfSixtyElements();
        whatIsNoTwo();
        verdictsJudged();
        theFirstThatIsNotSo();
        neverOfNoneAndOfTen();
        neverThereOrNot();
        neverInTheFirstCaseAndTheLast();
        lawsOfAClash();
        whatOfAClash();
        casesOfAClash();
        due.end();
    }

    private static void whatIsACase() {
        due.by(8, "A CASE: three numbers x, y, z (0 .. 4 each), told as 100 x, 10 y and z.");
        Run law = new Run();
        Due.law(law, "x*100+y*10+z=d*3", 0, 1);
        Due.law(law, "1", 99, 1);
        for (int x = 0; x < 5; x++) {
            for (int y = 0; y < 5; y++) {
                for (int z = 0; z < 5; z++) {
                    int kase = 100 * x + 10 * y + z;
                    due.is(law.speaks(0, kase), kase == 0 ? 1 : 0);
                    due.is(law.speaks(1, kase), 1);
                    due.is(law.verdict(kase, 1), kase == 0 ? 0 : 1);
                }
            }
        }
    }

    private static boolean isCase(int kase) {
        return kase >= 0 && kase <= 444 && kase % 10 <= 4 && kase % 100 <= 44;
    }

    private static void whatIsNoCase() {
        due.by(8, "A CASE: three numbers x, y, z (0 .. 4 each), told as 100 x, 10 y and z. BAD.");
        for (int from = -20; from < 1100; from += 100) {
            Run law = new Run();
            Due.law(law, "1", 0, 2);
            for (int kase = from; kase < from + 100; kase++) {
                due.is(law.speaks(0, kase), isCase(kase) ? 1 : BAD);
                due.is(law.verdict(kase, 0), isCase(kase) ? 2 : BAD);
                due.is(law.verdict(kase, 1), isCase(kase) ? 0 : BAD);
                due.is(law.verdict(kase, 2), isCase(kase) ? 0 : BAD);
            }
        }
        Run law = new Run();
        Due.law(law, "1", 0, 2);
        for (int kase : new int[] {MIN, MIN + 1, -444, -111, -100, 4440, 65536, 65537, 1 << 24, MAX - 1, MAX}) {
            due.is(law.speaks(0, kase), BAD);
            due.is(law.verdict(kase, 0), BAD);
        }
    }

    private static void lawsThatSpeak() {
        due.by(8, "A LAW SPEAKS in a CASE (there or not): 1, 0. BAD.");
        Run law = new Run();
        due.is(law.speaks(0, 0), BAD);
        for (int k = 0; k < 10; k++) {
            Due.law(law, "x+y+z>" + k, 99, 1);
            due.is(law.speaks(k + 1, 444), BAD);
        }
        law.mend(0, 4, 0);
        due.is(law.count(1), 0);
        for (int k = 0; k < 10; k++) {
            due.is(law.speaks(k, 432), k < 9 ? 1 : 0);
            due.is(law.speaks(k, 0), 0);
            due.is(law.speaks(k, 444), 1);
        }
        for (int number : new int[] {-1, 10, 11, MIN, MAX}) {
            due.is(law.speaks(number, 0), BAD);
            due.is(law.speaks(number, 5), BAD);
        }
    }

    private static void whatIsAsked() {
        due.by(9, "VERDICT (what 0), the LAW that HOLDS (1), BEATEN (2, bits). BAD");
        Run law = new Run();
        Due.law(law, "x", 10, 2);
        Due.law(law, "1", 20, 0);
        int[] want = {2, 0, 2};
        for (int what : new int[] {-1, 3, 4, 10, MIN, MAX}) {
            due.is(law.verdict(100, what), BAD);
            due.is(law.verdict(0, what), BAD);
            due.is(law.verdict(5, what), BAD);
        }
        for (int what = 0; what < 3; what++) {
            due.is(law.verdict(100, what), want[what]);
        }
    }

    private static void verdict(Run law, int kase, int says, int number, int beaten) {
        due.is(law.verdict(kase, 0), says);
        due.is(law.verdict(kase, 1), number);
        due.is(law.verdict(kase, 2), beaten);
    }

    private static void noneSpeaks() {
        due.by(9, "NOT: none SPEAKS.");
        Run law = new Run();
        verdict(law, 0, NOT, NOT, NOT);
        verdict(law, 444, NOT, NOT, NOT);
        due.is(law.verdict(0, 3), BAD);
        Due.law(law, "x+y+z=0", 50, 0);
        verdict(law, 1, NOT, NOT, NOT);
        verdict(law, 0, 0, 0, 0);
        law.mend(0, 4, 49);
        verdict(law, 0, NOT, NOT, NOT);
        law.mend(0, 4, 50);
        Due.law(law, "0", 49, 2);
        law.mend(1, 2, 0);
        verdict(law, 0, NOT, NOT, NOT);
        for (int rule = 1; rule <= 3; rule++) {
            law.mend(0, 3, rule);
            verdict(law, 0, NOT, NOT, NOT);
        }
    }

    private static void theOldest() {
        due.by(9, "HOLDS, by RULE: 0 the oldest");
        Run law = new Run();
        Due.law(law, "1", 0, 0);
        Due.law(law, "1", 0, 1);
        Due.law(law, "1", 99, 2);
        verdict(law, 222, 0, 0, 6);
        law.mend(0, 0, 1);
        verdict(law, 222, 1, 1, 5);
        law.mend(1, 0, 1);
        verdict(law, 222, 0, 0, 6);
        law.mend(2, 0, 1);
        verdict(law, 222, 0, 0, 6);
        law.mend(2, 0, 0);
        verdict(law, 222, 2, 2, 3);
    }

    private static void theNewest() {
        due.by(9, "HOLDS, by RULE: 1 the newest");
        Run law = new Run();
        law.mend(0, 3, 1);
        Due.law(law, "1", 99, 0);
        Due.law(law, "1", 99, 1);
        Due.law(law, "1", 0, 2);
        verdict(law, 222, 1, 1, 5);
        law.mend(1, 0, 98);
        verdict(law, 222, 0, 0, 6);
        law.mend(2, 0, 99);
        verdict(law, 222, 2, 2, 3);
        law.mend(0, 4, 98);
        verdict(law, 222, 1, 1, 0);
    }

    private static void theNarrowest() {
        due.by(9, "2 the one that SPEAKS in the fewest CASES (of all 125; of like ones the oldest)");
        Run law = new Run();
        law.mend(0, 3, 2);
        Due.law(law, "1", 0, 0);
        Due.law(law, "x|y|z", 50, 1);
        Due.law(law, "x+y+z<12", 50, 2);
        verdict(law, 222, 1, 1, 5);
        due.is(law.of(1, 5), 124);
        due.is(law.of(2, 5), 124);
        law.mend(1, 0, 51);
        verdict(law, 222, 2, 2, 3);
        verdict(law, 444, 1, 1, 1);
        Due.law(law, "x=2&y=2&z=2", 99, 1);
        verdict(law, 222, 1, 3, 5);
        verdict(law, 223, 2, 2, 3);
    }

    private static void theKindest() {
        due.by(9, "3 the one that SAYS least of MUST (MAY first, then MAY NOT, then MUST; of like ones the oldest)");
        Run law = new Run();
        law.mend(0, 3, 3);
        Due.law(law, "1", 10, 2);
        Due.law(law, "1", 20, 0);
        Due.law(law, "1", 30, 1);
        verdict(law, 0, 1, 2, 3);
        law.mend(2, 1, 0);
        verdict(law, 0, 0, 1, 1);
        law.mend(1, 0, 30);
        verdict(law, 0, 0, 1, 1);
        law.mend(1, 0, 31);
        verdict(law, 0, 0, 2, 1);
        law.mend(1, 1, 2);
        law.mend(2, 1, 2);
        verdict(law, 0, 2, 0, 0);
        law.mend(0, 0, 40);
        verdict(law, 0, 2, 2, 0);
    }

    private static void whoIsBeaten() {
        due.by(9, "BEATEN: the others (bits) that STAND, SPEAK and SAY something else.");
        Run law = new Run();
        for (int k = 0; k < 10; k++) {
            Due.law(law, "1", 10 * k, k == 0 ? 1 : 2);
        }
        verdict(law, 333, 1, 0, 1022);
        law.mend(9, 1, 1);
        verdict(law, 333, 1, 0, 510);
        law.mend(1, 2, 2);
        verdict(law, 333, 1, 0, 506);
        law.mend(0, 4, 79);
        verdict(law, 333, 1, 0, 250);
        law.mend(0, 4, 0);
        verdict(law, 333, 1, 0, 0);
        law.mend(0, 4, 99);
        for (int k = 1; k < 9; k++) {
            law.mend(k, 1, 1);
        }
        verdict(law, 333, 1, 0, 0);
        law.mend(0, 1, 0);
        law.mend(0, 3, 1);
        verdict(law, 333, 1, 9, 1);
    }

    // rows judged

    private static void shelvesJudged() {
        due.by(10, "JUDGED: a ROW of shorts on a SHELF. BAD, -11, -12 (no ROW of shorts)");
        Run law = new Run();
        for (int shelf : new int[] {-1, 6, 7, MIN, MAX}) {
            due.is(law.judge(shelf), BAD);
        }
        for (int shelf = 0; shelf < 6; shelf++) {
            due.is(law.judge(shelf), -11);
            for (int sort = 0; sort < 5; sort++) {
                law.row(shelf, sort, 0);
                due.is(law.judge(shelf), sort == 1 ? NOT : -12);
                law.row(shelf, sort, 2);
                due.is(law.judge(shelf), sort == 1 ? 0 : -12);
            }
            law.body(0);
            law.keep(shelf, 0);
            due.is(law.judge(shelf), -12);
            law.keep(shelf, -1);
            due.is(law.judge(shelf), -11);
        }
    }

    private static void judged(Run law, int want, long... row) {
        Due.row(law, 0, Due.SHORTS, row);
        due.is(law.judge(0), want);
    }

    private static Run lawWhereXIsOne() {
        Run law = new Run();
        Due.law(law, "x=1", 10, 2);
        return law;
    }

    private static void rowsOfFewElements() {
        due.by(10, "by twos a CASE and a VERDICT: the first two that is not so (a two's end that lacks, too); NOT.");
        judged(lawWhereXIsOne(), NOT);
        judged(lawWhereXIsOne(), 0, 100);
        judged(lawWhereXIsOne(), 0, 0);
        judged(lawWhereXIsOne(), NOT, 100, 2);
        judged(lawWhereXIsOne(), NOT, 0, -2);
        judged(lawWhereXIsOne(), 0, 100, 1);
        judged(lawWhereXIsOne(), 0, 0, 2);
        judged(lawWhereXIsOne(), 1, 100, 2, 100);
        judged(lawWhereXIsOne(), 1, 100, 2, 0);
        judged(lawWhereXIsOne(), 0, 100, -2, 100);
        judged(lawWhereXIsOne(), NOT, 100, 2, 0, -2);
        judged(lawWhereXIsOne(), 2, 100, 2, 0, -2, 100);
        judged(new Run(), NOT);
        judged(new Run(), 0, 444);
        judged(new Run(), NOT, 444, -2);
        judged(new Run(), 0, 444, 0);
    }

    /** An element that lacks is no 0, by which a LAW SAYS MAY NOT. */
    private static void anEndThatLacks() {
        due.by(10, "the first two that is not so (.. a two's end that lacks, too)");
        Run law = new Run();
        Due.law(law, "1", 0, 0);
        judged(law, 0, 0);
        judged(law, NOT, 0, 0);
        judged(law, 1, 0, 0, 0);
        judged(law, 1, 444, 0, 444);
        judged(law, NOT, 444, 0, 444, 0);
        judged(law, 0, 444);
        long[] row = new long[60];
        judged(law, NOT, row);
        judged(law, 29, java.util.Arrays.copyOf(row, 59));
        Due.row(law, 0, Due.SHORTS, 0, 0, 0, 2);
        law.row(0, Due.SHORTS, 3);
        due.is(law.judge(0), 1);
    }

    private static void rowsOfSixtyElements() {
        due.by(10, "JUDGED: a ROW of shorts on a SHELF (of 0 .. 60 elements)");
        long[] row = new long[60];
        for (int k = 0; k < 60; k += 2) {
            row[k] = 100;
            row[k + 1] = 2;
        }
        judged(lawWhereXIsOne(), NOT, row);
        judged(lawWhereXIsOne(), 29, java.util.Arrays.copyOf(row, 59));
        judged(lawWhereXIsOne(), NOT, java.util.Arrays.copyOf(row, 58));
        for (int k : new int[] {0, 1, 28, 29}) {
            long[] wrong = row.clone();
            wrong[2 * k + 1] = 1;
            judged(lawWhereXIsOne(), k, wrong);
            wrong[2 * k + 1] = 2;
            wrong[2 * k] = 200;
            judged(lawWhereXIsOne(), k, wrong);
        }
    }

    private static void whatIsNoTwo() {
        due.by(10, "the first two that is not so (no CASE, no VERDICT; a two's end that lacks, too)");
        for (int kase : new int[] {-1, -2, 5, 9, 10 * 5, 45, 49, 99, 105, 145, 150, 199, 405, 445, 450, 499, 500, 1000,
            32767, -32768}) {
            judged(lawWhereXIsOne(), 1, 0, -2, kase, -2);
            judged(lawWhereXIsOne(), 0, kase, 2);
        }
        for (int verdict : new int[] {-1, -3, 3, 4, 254, 256, 32767, -32768}) {
            judged(lawWhereXIsOne(), 1, 100, 2, 0, verdict);
            judged(lawWhereXIsOne(), 0, 100, verdict);
        }
        judged(lawWhereXIsOne(), NOT, 65536 + 100, 65536 + 2);
        judged(lawWhereXIsOne(), NOT, 0, 65534);
    }

    private static void verdictsJudged() {
        due.by(10, "a VERDICT (0 to 2, -2: NOT)");
        Run law = new Run();
        Due.law(law, "x=0", 10, 0);
        Due.law(law, "x=1", 10, 1);
        Due.law(law, "x=2", 10, 2);
        int[] verdicts = {0, 1, 2, NOT};
        for (int x = 0; x < 4; x++) {
            for (int verdict : verdicts) {
                judged(law, verdict == verdicts[x] ? NOT : 0, 100 * x + 44, verdict);
            }
        }
        law.mend(0, 4, 9);
        judged(law, NOT, 0, -2, 100, -2, 200, -2);
    }

    private static void theFirstThatIsNotSo() {
        due.by(10, "the first two that is not so");
        judged(lawWhereXIsOne(), 0, 0, 2, 100, 1, 5, 5);
        judged(lawWhereXIsOne(), 1, 0, -2, 100, 1, 5, 5);
        judged(lawWhereXIsOne(), 2, 0, -2, 100, 2, 5, 5, 0, 0, 0);
        judged(lawWhereXIsOne(), 3, 0, -2, 100, 2, 0, -2, 0, 0, 0);
        judged(lawWhereXIsOne(), 4, 0, -2, 100, 2, 0, -2, 0, -2, 0);
    }

    // laws that never hold

    private static void neverOfNoneAndOfTen() {
        due.by(11, "NEVER, as bits.");
        Run law = new Run();
        due.is(law.never(), 0);
        for (int k = 0; k < 10; k++) {
            Due.law(law, "0", k, 1);
            due.is(law.never(), (2 << k) - 1);
        }
        Run hold = new Run();
        for (int k = 0; k < 10; k++) {
            Due.law(hold, "x=" + k / 5 + "&y=" + k % 5, 50, 1);
            due.is(hold.never(), 0);
        }
        Run last = new Run();
        for (int k = 0; k < 10; k++) {
            Due.law(last, "1", 99 - k, 1);
            due.is(last.never(), (1 << k) - 1);
        }
        last.mend(0, 3, 1);
        due.is(last.never(), 1022);
    }

    private static void neverThereOrNot() {
        due.by(11, "NEVER: LAWS (bits, there or not) that HOLD in no CASE.");
        Run law = new Run();
        Due.law(law, "x", 10, 1);
        Due.law(law, "!x", 20, 1);
        due.is(law.never(), 0);
        law.mend(0, 4, 19);
        due.is(law.never(), 2);
        law.mend(0, 4, 9);
        due.is(law.never(), 3);
        law.mend(0, 4, 20);
        law.mend(0, 2, 1);
        due.is(law.never(), 2);
    }

    private static void neverInTheFirstCaseAndTheLast() {
        due.by(11, "LAWS that HOLD in no CASE");
        for (String only : new String[] {"x+y+z=0", "x+y+z=12", "x*100+y*10+z=222", "x*100+y*10+z=223",
            "x*100+y*10+z=224"}) {
            Run law = new Run();
            Due.law(law, only, 10, 1);
            Due.law(law, "1", 20, 2);
            due.is(law.never(), 0);
            law.mend(0, 3, 1);
            due.is(law.never(), 1);
        }
    }

    // laws that clash

    private static void lawsOfAClash() {
        due.by(12, "CLASH (ij: 10 times the one LAW and the other; unlike, both there). BAD");
        Run law = new Run();
        due.is(law.clash(1, 0), BAD);
        for (int k = 0; k < 9; k++) {
            Due.law(law, "1", 10 * k, k % 2);
        }
        for (int what = 0; what < 2; what++) {
            for (int i = 0; i < 10; i++) {
                for (int j = 0; j < 10; j++) {
                    boolean so = i != j && i < 9 && j < 9;
                    int many = (i + j) % 2 == 1 ? 125 : 0;
                    due.is(law.clash(10 * i + j, what), so ? what == 1 ? many : many > 0 ? 0 : NOT : BAD);
                }
            }
        }
        for (int ij : new int[] {-1, -9, -10, -12, 100, 101, 110, 112, MIN, MAX}) {
            due.is(law.clash(ij, 0), BAD);
            due.is(law.clash(ij, 1), BAD);
        }
        law.mend(0, 4, 70);
        due.is(law.clash(7, 0), 0);
        law.mend(0, 4, 69);
        due.is(law.clash(7, 0), BAD);
        due.is(law.clash(70, 1), BAD);
        due.is(law.clash(78, 1), BAD);
        due.is(law.clash(56, 1), 125);
    }

    private static void whatOfAClash() {
        due.by(12, "the CASE (what 0), in how many (1). BAD; NOT (what 0).");
        Run law = new Run();
        Due.law(law, "x=4&y=4", 10, 0);
        Due.law(law, "z=4", 20, 1);
        Due.law(law, "x<4", 30, 2);
        for (int what : new int[] {-1, 2, 3, MIN, MAX}) {
            due.is(law.clash(1, what), BAD);
            due.is(law.clash(2, what), BAD);
        }
        due.is(law.clash(1, 0), 444);
        due.is(law.clash(1, 1), 1);
        due.is(law.clash(2, 0), NOT);
        due.is(law.clash(2, 1), 0);
        due.is(law.clash(12, 0), 4);
        due.is(law.clash(21, 1), 20);
    }

    private static void casesOfAClash() {
        due.by(12, "(whether they STAND or not): the first CASE (by its number) in which both SPEAK and they SAY unlike"
            + " things; in how many; NOT.");
        Run law = new Run();
        Due.law(law, "1", 10, 0);
        Due.law(law, "1", 20, 1);
        due.is(law.clash(1, 0), 0);
        due.is(law.clash(10, 1), 125);
        law.mend(0, 2, 1);
        due.is(law.of(1, 4), 0);
        due.is(law.clash(1, 0), 0);
        due.is(law.clash(1, 1), 125);
        law.mend(1, 1, 0);
        due.is(law.clash(1, 0), NOT);
        due.is(law.clash(1, 1), 0);
        Due.law(law, "x*100+y*10+z=222|x*100+y*10+z=223|x=4&y*10+z>43", 30, 2);
        due.is(law.clash(2, 0), 222);
        due.is(law.clash(20, 1), 3);
        Due.law(law, "x=2&y=2&z>2|x=4&z=4", 40, 1);
        due.is(law.clash(23, 0), 223);
        due.is(law.clash(32, 1), 2);
        Due.law(law, "0", 40, 1);
        due.is(law.clash(4, 0), NOT);
        due.is(law.clash(40, 1), 0);
    }
}
