/** Promises 8 to 12: who speaks and holds in a case, rows judged, laws that never hold, laws that clash. */
public final class CasesTest {
    private static final Due due = new Due();
    private static final int NOT = -2;

    public static void main(String[] args) {
        whoSpeaks();
        verdictsByRule();
        verdictsOfLikeOnes();
        verdictsOfThoseThatStand();
        rowsJudged();
        rowsOfOtherKinds();
        lawsThatNeverHold();
        lawsThatClash();
        due.end();
    }

    private static final int[] NO_CASES = {-1, 5, 9, 10 * 5, 45, 105, 150, 445, 450, 500, 1000, 3004, -100,
        Integer.MIN_VALUE, Integer.MAX_VALUE};

    private static void whoSpeaks() {
        Run law = new Run();
        due.is(8, "speaks(0, 0) without laws", law.speaks(0, 0), -1);
        Due.law(law, "x+y>z", 40, 1);
        due.speech(8, law, 0, "x+y>z", (x, y, z) -> x + y > z);
        law.mend(0, 4, 39);
        due.speech(8, law, 0, "x+y>z, not there", (x, y, z) -> x + y > z);
        for (int kase : NO_CASES) {
            due.is(8, "speaks(0, " + kase + ")", law.speaks(0, kase), -1);
        }
        due.is(8, "speaks(1, 0)", law.speaks(1, 0), -1);
        due.is(8, "speaks(-1, 0)", law.speaks(-1, 0), -1);
        due.is(8, "speaks(10, 0)", law.speaks(10, 0), -1);
    }

    private static void verdict(Run law, int kase, int says, int number, int beaten) {
        due.is(9, "verdict(" + kase + ", 0)", law.verdict(kase, 0), says);
        due.is(9, "verdict(" + kase + ", 1)", law.verdict(kase, 1), number);
        due.is(9, "verdict(" + kase + ", 2)", law.verdict(kase, 2), beaten);
    }

    private static void verdictsByRule() {
        Run law = new Run();
        verdict(law, 0, NOT, NOT, NOT);
        Due.law(law, "x<4", 30, 2);
        Due.law(law, "x=1", 10, 0);
        Due.law(law, "x=1&y=1", 20, 1);
        Due.law(law, "x<3", 50, 2);
        verdict(law, 111, 0, 1, 13);
        verdict(law, 101, 0, 1, 9);
        verdict(law, 200, 2, 0, 0);
        verdict(law, 300, 2, 0, 0);
        verdict(law, 444, NOT, NOT, NOT);
        law.mend(0, 3, 1);
        verdict(law, 111, 2, 3, 6);
        verdict(law, 200, 2, 3, 0);
        law.mend(0, 3, 2);
        verdict(law, 111, 1, 2, 11);
        verdict(law, 101, 0, 1, 9);
        verdict(law, 200, 2, 3, 0);
        law.mend(0, 3, 3);
        verdict(law, 111, 1, 2, 11);
        verdict(law, 101, 0, 1, 9);
        verdict(law, 200, 2, 0, 0);
        for (int kase : NO_CASES) {
            due.is(9, "verdict(" + kase + ", 0)", law.verdict(kase, 0), -1);
        }
        due.is(9, "verdict(0, 3)", law.verdict(0, 3), -1);
        due.is(9, "verdict(0, -1)", law.verdict(0, -1), -1);
        due.is(9, "verdict(444, 3)", law.verdict(444, 3), -1);
    }

    /** Three laws of one date that speak everywhere: by each rule, which of like ones. */
    private static void verdictsOfLikeOnes() {
        Run law = new Run();
        for (int k = 0; k < 3; k++) {
            Due.law(law, "1", 20, 0);
        }
        int[] ofOneDate = {0, 2, 0, 0};
        int[] theLastOldest = {2, 1, 2, 2};
        int[] theFirstNewest = {2, 0, 2, 2};
        for (int rule = 0; rule < 4; rule++) {
            law.mend(0, 3, rule);
            verdict(law, 0, 0, ofOneDate[rule], 0);
            law.mend(2, 0, 19);
            verdict(law, 0, 0, theLastOldest[rule], 0);
            law.mend(0, 0, 21);
            verdict(law, 0, 0, theFirstNewest[rule], 0);
            law.mend(0, 0, 20);
            law.mend(2, 0, 20);
        }
        law.mend(0, 1, 2);
        law.mend(1, 1, 0);
        law.mend(2, 1, 1);
        verdict(law, 0, 1, 2, 3);
        law.mend(2, 1, 2);
        verdict(law, 0, 0, 1, 5);
        law.mend(1, 1, 2);
        verdict(law, 0, 2, 0, 0);
    }

    private static void verdictsOfThoseThatStand() {
        Run law = new Run();
        Due.law(law, "0", 10, 1);
        Due.law(law, "1", 20, 2);
        Due.law(law, "1", 30, 0);
        verdict(law, 123, 2, 1, 4);
        law.mend(0, 2, 1);
        verdict(law, 123, 0, 2, 0);
        law.mend(0, 0, 40);
        verdict(law, 123, 2, 1, 4);
        law.mend(0, 4, 29);
        verdict(law, 123, 2, 1, 0);
        law.mend(0, 4, 19);
        verdict(law, 123, NOT, NOT, NOT);
    }

    private static void judged(Run law, int want, long... row) {
        Due.row(law, 3, Due.SHORTS, row);
        due.is(10, "judge(3)", law.judge(3), want);
    }

    private static void rowsJudged() {
        Run law = new Run();
        Due.law(law, "x=1", 10, 2);
        Due.law(law, "x=2", 10, 0);
        judged(law, NOT);
        judged(law, NOT, 100, 2, 200, 0, 0, -2, 444, -2, 144, 2);
        judged(law, 0, 100, 1, 200, 0);
        judged(law, 2, 100, 2, 200, 0, 0, 0, 444, 0);
        judged(law, 1, 100, 2, 200, -2);
        judged(law, 1, 100, 2, 5, -2);
        judged(law, 1, 100, 2, -1, -2);
        judged(law, 1, 100, 2, 50, -2);
        judged(law, 1, 100, 2, 445, -2);
        judged(law, 1, 100, 2, 500, -2);
        judged(law, 1, 100, 2, 0, -1);
        judged(law, 1, 100, 2, 0, 3);
        judged(law, 0, 0, -3);
        judged(law, 0, 100);
        judged(law, 2, 100, 2, 200, 0, 100);
        judged(law, 0, 100, 0, 200, 0, 100);
        Due.row(law, 3, Due.SHORTS, new long[60]);
        for (int k = 0; k < 30; k++) {
            law.put(3, 2 * k, 100);
            law.put(3, 2 * k + 1, 2);
        }
        due.is(10, "judge(3) of thirty", law.judge(3), NOT);
        law.put(3, 59, 1);
        due.is(10, "judge(3) of thirty, the last wrong", law.judge(3), 29);
        law.mend(0, 4, 0);
        judged(law, NOT, 100, -2, 200, -2);
    }

    private static void rowsOfOtherKinds() {
        Run law = new Run();
        due.is(10, "judge(-1)", law.judge(-1), -1);
        due.is(10, "judge(6)", law.judge(6), -1);
        due.is(10, "judge(5)", law.judge(5), -11);
        int[] sorts = {Due.BYTES, Due.INTS, Due.LONGS, Due.BOOLEANS};
        for (int sort : sorts) {
            law.row(5, sort, 0);
            due.is(10, "judge(5) of sort " + sort, law.judge(5), -12);
        }
        law.keep(5, law.body(1));
        due.is(10, "judge(5) of a body", law.judge(5), -12);
        law.keep(5, -1);
        due.is(10, "judge(5) bare again", law.judge(5), -11);
    }

    private static void lawsThatNeverHold() {
        Run law = new Run();
        Due.law(law, "x=1", 30, 2);
        due.is(11, "never()", law.never(), 0);
        Due.law(law, "0", 10, 1);
        due.is(11, "never()", law.never(), 2);
        Due.law(law, "1", 20, 1);
        due.is(11, "never()", law.never(), 3);
        law.mend(0, 3, 2);
        due.is(11, "never() by the narrowest", law.never(), 2);
        law.mend(0, 3, 1);
        due.is(11, "never() by the newest", law.never(), 2);
        law.mend(0, 3, 3);
        due.is(11, "never() by the kindest", law.never(), 3);
        law.mend(0, 3, 0);
        law.mend(1, 2, 2);
        due.is(11, "never(), one is struck", law.never(), 6);
        law.mend(0, 4, 25);
        due.is(11, "never(), one is not there", law.never(), 7);
        law.mend(0, 4, 5);
        due.is(11, "never(), none is there", law.never(), 7);
        for (int k = 3; k < 10; k++) {
            Due.law(law, "1", 0, 1);
        }
        due.is(11, "never() of ten", law.never(), 1023 - 8);
        Run ends = new Run();
        Due.law(ends, "x+y+z=0", 10, 1);
        Due.law(ends, "x+y+z=12", 10, 1);
        Due.law(ends, "1", 20, 1);
        due.is(11, "never() of the first case and the last", ends.never(), 0);
    }

    private static void lawsThatClash() {
        Run law = new Run();
        due.is(12, "clash(1, 0) without laws", law.clash(1, 0), -1);
        Due.law(law, "x>2", 30, 2);
        Due.law(law, "y=z", 10, 1);
        Due.law(law, "x=2", 20, 1);
        Due.law(law, "x>1&z=4", 40, 2);
        due.is(12, "clash(1, 0)", law.clash(1, 0), 300);
        due.is(12, "clash(1, 1)", law.clash(1, 1), 10);
        due.is(12, "clash(10, 0)", law.clash(10, 0), 300);
        due.is(12, "clash(10, 1)", law.clash(10, 1), 10);
        due.is(12, "clash(2, 0)", law.clash(2, 0), NOT);
        due.is(12, "clash(2, 1)", law.clash(2, 1), 0);
        due.is(12, "clash(12, 0): they say the same", law.clash(12, 0), NOT);
        due.is(12, "clash(12, 1)", law.clash(12, 1), 0);
        due.is(12, "clash(3, 1): they say the same", law.clash(3, 1), 0);
        due.is(12, "clash(23, 0)", law.clash(23, 0), 204);
        due.is(12, "clash(31, 1)", law.clash(31, 1), 3);
        due.is(12, "clash(31, 0)", law.clash(31, 0), 244);
        law.mend(1, 2, 0);
        due.is(12, "of(0, 4)", law.of(0, 4), 0);
        due.is(12, "clash(1, 1), one does not stand", law.clash(1, 1), 10);
        int[] bad = {-1, -10, 0, 11, 22, 33, 4, 40, 44, 99, 100, 110, Integer.MIN_VALUE, Integer.MAX_VALUE};
        for (int ij : bad) {
            due.is(12, "clash(" + ij + ", 0)", law.clash(ij, 0), -1);
            due.is(12, "clash(" + ij + ", 1)", law.clash(ij, 1), -1);
        }
        due.is(12, "clash(1, 2)", law.clash(1, 2), -1);
        due.is(12, "clash(1, -1)", law.clash(1, -1), -1);
        law.mend(0, 4, 29);
        due.is(12, "clash(1, 0), one is not there", law.clash(1, 0), -1);
        due.is(12, "clash(10, 1), one is not there", law.clash(10, 1), -1);
        due.is(12, "clash(21, 1)", law.clash(21, 1), 0);
        Run ends = new Run();
        Due.law(ends, "x=y&y=z", 10, 1);
        Due.law(ends, "x+y+z=12", 10, 0);
        Due.law(ends, "x<1", 10, 2);
        due.is(12, "clash(1, 0) of the last case", ends.clash(1, 0), 444);
        due.is(12, "clash(1, 1) of the last case", ends.clash(1, 1), 1);
        due.is(12, "clash(2, 0) of the first case", ends.clash(2, 0), 0);
        due.is(12, "clash(2, 1) of the first case", ends.clash(2, 1), 1);
    }
}
