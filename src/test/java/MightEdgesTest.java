/** Promises 13 to 23, with Terms 3: a test for each sentence with an edge. */
public final class MightEdgesTest {
    private static final Due due = new Due();
    private static final int BAD = -1, NOT = -2, STATE = -5, MIN = Integer.MIN_VALUE, MAX = Integer.MAX_VALUE;

    public static void main(String[] args) {
        whatIsWritten();
        shelvesOfToldRows();
        fewestConditions();
        allConditionsInTheirOrder();
        bothMustBe();
        aWordingOfADate();
        aWordingThatIsThere();
        aWordingAsNarrowAsALaw();
        rowsWrittenToTheEnd();
        whatBars();
        neitherSpeakingNorNot();
        barredByTheNarrowest();
        theFirstBarredOfThirty();
        anEndThatLacks();
        wordsMeant();
        casesMeant();
        setsOfFalseOnes();
        fewestAndLeastBits();
        lawsUnderAll();
        casesUnderAll();
        rulesUnlike();
        casesUnlike();
        ringsOfNoneAndTen();
        ringsOfThoseThere();
        howManyImaged();
        whatAnImageKeeps();
        lawsThatCameSince();
        noneToUndo();
        fortyAtMost();
        noOtherCameBehind();
        whatMayBeUndone();
        due.end();
    }

    private static void told(Run law, long... row) {
        Due.row(law, 0, Due.SHORTS, row);
    }

    private static Run ruled(int rule, String text, int date, int says) {
        Run law = new Run();
        Due.law(law, text, date, says);
        law.mend(0, 3, rule);
        return law;
    }

    // write

    private static void whatIsWritten() {
        due.by(13, "a LAW of a DATE that SAYS something. BAD");
        Run law = new Run();
        told(law);
        for (int v : new int[] {-1, 100, MIN, MAX}) {
            due.is(law.write(0, v, 0), BAD);
            due.is(law.bars(0, v, 0), BAD);
        }
        for (int v : new int[] {-1, 3, MIN, MAX}) {
            due.is(law.write(0, 0, v), BAD);
            due.is(law.bars(0, 0, v), BAD);
        }
        for (int says = 0; says < 3; says++) {
            due.is(law.write(0, 0, says), 0);
            due.is(law.write(0, 99, says), 0);
            due.is(law.bars(0, 0, says), NOT);
            due.is(law.bars(0, 99, says), NOT);
        }
    }

    private static void shelvesOfToldRows() {
        due.by(13, "BAD, -11, -12 (no ROW of shorts); of several the one named first");
        Run law = new Run();
        for (int shelf : new int[] {-1, 6, MIN, MAX}) {
            due.is(law.write(shelf, 0, 0), BAD);
            due.is(law.bars(shelf, 0, 0), BAD);
            due.is(law.falseOnes(shelf), BAD);
        }
        law.body(0);
        for (int shelf = 0; shelf < 6; shelf++) {
            due.is(law.write(shelf, 0, 0), -11);
            due.is(law.bars(shelf, 0, 0), -11);
            due.is(law.falseOnes(shelf), -11);
            due.is(law.write(shelf, 100, 0), BAD);
            due.is(law.bars(shelf, 0, 3), BAD);
            for (int sort = 0; sort < 6; sort++) {
                due.is(sort == 5 ? law.keep(shelf, 0) : law.row(shelf, sort, 0), 1);
                due.is(law.write(shelf, 0, 0), sort == 1 ? 0 : -12);
                due.is(law.bars(shelf, 0, 0), sort == 1 ? NOT : -12);
                due.is(law.falseOnes(shelf), sort == 1 ? 0 : -12);
                due.is(law.write(shelf, -1, 0), BAD);
                due.is(law.bars(shelf, 0, -1), BAD);
            }
        }
    }

    private static void written(Run law, int date, int says, int want, long... row) {
        told(law, row);
        due.is(law.write(0, date, says), want);
    }

    private static void fewestConditions() {
        due.by(13, "fewest CONDITIONS, then by the first, then by the second (0: none); NOT.");
        Run law = new Run();
        written(law, 5, 1, 0);
        written(law, 5, 1, 0, 0, 1, 444, 1);
        written(law, 5, 1, 100, 0, -2, 444, -2);
        written(law, 5, 1, 200, 0, 1, 100, -2);
        written(law, 5, 1, 4000, 4, 1, 3, -2);
        written(law, 5, 1, 4300, 4, 1, 3, 1, 2, -2);
        written(law, 5, 1, 217, 0, 1, 100, -2, 10, -2);
        written(law, 5, 1, 2843, 33, 1, 44, 1, 143, 1, 434, 1, 32, -2, 23, -2, 424, -2);
        written(law, 5, 1, NOT, 0, 1, 1, -2, 10, -2, 100, -2);
        written(law, 5, 1, NOT, 0, 0);
        written(law, 5, 1, NOT, 0, 2);
    }

    /** The first wording for what only one word tells: the cases 222 with each number in its place. */
    private static int firstOf(int word, int speaking) {
        for (int a = 0; a < 5; a++) {
            for (int b = a; b < 5; b++) {
                if (speaking == (1 << b + 1) - (1 << a)) {
                    int less = 15 * word + b + 2, like = 15 * word + 5 + a + 1, more = 15 * word + 10 + a;
                    if (a == 0) {
                        return b == 4 ? 0 : 100 * less;
                    }
                    return a == b ? 100 * like : b == 4 ? 100 * more : 100 * less + more;
                }
            }
        }
        return speaking == 0 ? 100 : NOT;
    }

    private static void allConditionsInTheirOrder() {
        due.by(13, "a WORD (x, y, z), < or = or >, a number 0 .. 4: 15 WORD, 5 times 0 < 1 = 2 >, and number");
        int[] places = {100, 10, 1};
        for (int word = 0; word < 3; word++) {
            for (int speaking = 0; speaking < 32; speaking++) {
                long[] row = new long[10];
                for (int v = 0; v < 5; v++) {
                    row[2 * v] = 222 + (v - 2) * places[word];
                    row[2 * v + 1] = (speaking >> v & 1) == 1 ? 2 : NOT;
                }
                written(new Run(), 50, 2, firstOf(word, speaking), row);
            }
        }
    }

    private static void bothMustBe() {
        due.by(13, "two of these, both must be (the first one is ahead of the other in their order)");
        written(new Run(), 5, 1, 2532, 40, 1, 340, 1, 41, -2, 30, -2);
        written(new Run(), 5, 1, 739, 123, 1, 143, 1, 124, -2, 223, -2, 122, -2, 23, -2);
        written(new Run(), 5, 1, 411, 100, 1, 200, 1, 0, -2, 300, -2);
        written(new Run(), 5, 1, 1926, 10, 1, 20, 1, 0, -2, 30, -2);
        written(new Run(), 5, 1, 3441, 1, 1, 2, 1, 0, -2, 3, -2);
    }

    private static void aWordingOfADate() {
        due.by(13, "It is a LAW (with number 10) of a DATE");
        Run law = ruled(0, "1", 50, 0);
        written(law, 49, 2, 0, 123, 2);
        written(law, 50, 2, NOT, 123, 2);
        written(law, 51, 2, NOT, 123, 2);
        law.mend(0, 3, 1);
        written(law, 49, 2, NOT, 123, 2);
        written(law, 50, 2, 0, 123, 2);
        written(law, 51, 2, 0, 123, 2);
        law.mend(0, 3, 3);
        law.mend(0, 1, 1);
        written(law, 49, 1, 0, 123, 1);
        written(law, 99, 1, 0, 123, 1);
        written(law, 0, 2, NOT, 123, 2);
        law.mend(0, 1, 2);
        written(law, 99, 0, 0, 123, 0);
        Run ten = new Run();
        for (int k = 0; k < 10; k++) {
            Due.law(ten, "1", 20, 0);
        }
        written(ten, 20, 1, NOT, 0, 1);
        written(ten, 19, 1, 0, 0, 1);
        ten.mend(0, 3, 1);
        written(ten, 20, 1, 0, 0, 1);
        written(ten, 19, 1, NOT, 0, 1);
    }

    private static void aWordingThatIsThere() {
        due.by(13, "It is a LAW (there, STANDING, ..), strikes nobody");
        Run law = new Run();
        law.mend(0, 4, 0);
        written(law, 99, 1, 0, 123, 1);
        written(law, 1, 1, 0, 123, 1);
        Due.law(law, "0", 0, 0);
        for (int strikes = -1; strikes <= 9; strikes++) {
            law.mend(0, 2, strikes);
            due.is(law.write(0, 99, 1), 0);
        }
        Due.law(law, "1", 0, 2);
        law.mend(0, 2, -1);
        written(law, 0, 1, NOT, 123, 1);
        law.mend(0, 2, 1);
        written(law, 0, 1, 0, 123, 1);
    }

    private static void aWordingAsNarrowAsALaw() {
        due.by(13, "by RULE 2 SPEAKS in as many CASES as it does");
        Run law = ruled(2, "x=0", 10, 0);
        written(law, 9, 2, 200, 0, 2);
        written(law, 10, 2, 217, 0, 2);
        written(law, 9, 0, 0, 0, 0);
        Run six = ruled(2, "x=0&y=0|x=4&y=4&z=4", 0, 0);
        written(six, 99, 2, 217, 0, 2);
        written(six, 99, 2, NOT, 444, 2, 0, 2);
        Run five = ruled(2, "x=0&y=0", 10, 0);
        written(five, 9, 2, 217, 0, 2);
        written(five, 10, 2, NOT, 0, 2);
        Run four = ruled(2, "x=0&y=0&z<4", 99, 0);
        written(four, 0, 2, NOT, 0, 2);
        written(four, 0, 2, 0, 4, 2);
        Run all = ruled(2, "1", 10, 0);
        written(all, 9, 2, 0, 0, 2);
        written(all, 10, 2, 200, 0, 2);
    }

    private static void rowsWrittenToTheEnd() {
        due.by(13, "with which a ROW, as of JUDGED, is so; NOT.");
        long[] row = new long[60];
        for (int k = 0; k < 60; k += 2) {
            row[k] = 100;
            row[k + 1] = 2;
        }
        written(new Run(), 5, 2, 0, row);
        row[58] = 0;
        row[59] = NOT;
        written(new Run(), 5, 2, 700, row);
        row[59] = 1;
        written(new Run(), 5, 2, NOT, row);
        written(new Run(), 5, 2, NOT, java.util.Arrays.copyOf(row, 59));
        written(new Run(), 5, 2, 0, java.util.Arrays.copyOf(row, 58));
        for (long[] no : new long[][] {{0}, {5, -2}, {445, -2}, {-1, -2}, {0, 3}, {0, -1}, {0, -3}, {0, -2, 0},
            {0, -2, 50, -2}}) {
            written(new Run(), 5, 2, NOT, no);
        }
    }

    // bars

    private static void barred(Run law, int date, int says, int want, long... row) {
        told(law, row);
        due.is(law.bars(0, date, says), want);
    }

    private static void whatBars() {
        due.by(14, "the LAW that HOLDS then (without it); NOT: there is no such two, or none HOLDS.");
        barred(new Run(), 5, 1, NOT);
        barred(new Run(), 5, 1, NOT, 0, 1);
        barred(new Run(), 5, 1, NOT, 0, 2);
        Run law = ruled(0, "x=1", 50, 0);
        barred(law, 50, 1, NOT);
        barred(law, 50, 1, 0, 100, 1);
        barred(law, 50, 1, 0, 100, 2);
        barred(law, 50, 1, 0, 100, -2);
        barred(law, 50, 1, NOT, 100, 0);
        barred(law, 49, 1, NOT, 100, 1);
        barred(law, 49, 1, 0, 100, 2);
        barred(law, 49, 1, 0, 100, -2);
        barred(law, 50, 1, NOT, 0, 2);
        barred(law, 50, 1, NOT, 0, 2, 100, 1);
        barred(law, 50, 1, 0, 0, 1, 100, 1);
        barred(law, 50, 1, 0, 0, -2, 100, 1, 5);
        for (long[] no : new long[][] {{100}, {5, 1}, {100, 3}, {100, -1}, {100, 0, 100}, {0, 3, 100, 1},
            {-1, 1, 100, 1}, {445, 1, 100, 1}}) {
            barred(law, 50, 1, NOT, no);
        }
        law.mend(0, 4, 49);
        barred(law, 99, 1, NOT, 100, 1, 100, -2);
    }

    private static void neitherSpeakingNorNot() {
        due.by(14, "each CASE by itself: neither if it SPEAKS nor if it does not");
        Run law = ruled(0, "1", 50, 0);
        barred(law, 49, 1, NOT, 0, 1, 100, 0, 10, 1, 110, 0, 1, 0, 101, 1, 444, 1, 0, 0);
        due.is(law.write(0, 49, 1), NOT);
        barred(law, 50, 1, 0, 0, 0, 444, 1);
        barred(law, 50, 0, NOT, 0, 0, 444, 0);
        barred(law, 0, 0, 0, 0, 0, 444, 1);
        law.mend(0, 3, 1);
        barred(law, 50, 1, NOT, 0, 1, 0, 0);
        barred(law, 49, 1, 0, 0, 1);
        law.mend(0, 3, 3);
        barred(law, 99, 1, NOT, 0, 1, 0, 0);
        barred(law, 0, 2, 0, 0, 2);
        Due.law(law, "x=1", 0, 1);
        barred(law, 0, 1, 1, 0, 1, 100, 0);
        barred(law, 0, 1, 0, 0, 2, 100, 0);
    }

    private static void barredByTheNarrowest() {
        due.by(14, "as it must be with any WORDING (by RULE 2: SPEAKS in as many CASES as it does)");
        barred(ruled(2, "x=0&y=0|x=4&y=4&z=4", 0, 0), 99, 2, NOT, 0, 2, 444, 2);
        barred(ruled(2, "x=0&y=0", 10, 0), 9, 2, NOT, 0, 2);
        barred(ruled(2, "x=0&y=0", 10, 0), 10, 2, 0, 0, 2);
        barred(ruled(2, "x=0&y=0&z<4", 99, 0), 0, 2, 0, 0, 2);
        Run moved = ruled(2, "z<4&x=0", 0, 0);
        due.is(moved.of(0, 5), 20);
        barred(moved, 99, 2, NOT, 0, 2);
        moved.moved(0, 2, 0);
        moved.moved(1, 2, 0);
        due.is(moved.of(0, 5), 25);
        barred(moved, 99, 2, 0, 0, 2);
        moved.mend(0, 0, 99);
        barred(moved, 98, 2, NOT, 0, 2);
    }

    private static void theFirstBarredOfThirty() {
        due.by(14, "the first two of the ROW whose VERDICT is not as it must be");
        Run law = ruled(0, "x=1", 50, 0);
        Due.law(law, "x=2", 50, 0);
        long[] row = new long[60];
        for (int k = 0; k < 60; k += 2) {
            row[k] = 300;
            row[k + 1] = k % 4 == 0 ? 1 : NOT;
        }
        barred(law, 50, 1, NOT, row);
        row[58] = 200;
        barred(law, 50, 1, 1, row);
        row[56] = 100;
        barred(law, 50, 1, 0, row);
        row[0] = 200;
        barred(law, 50, 1, 1, row);
        barred(law, 50, 1, NOT, java.util.Arrays.copyOfRange(row, 2, 53));
        barred(law, 50, 1, 0, java.util.Arrays.copyOfRange(row, 2, 58));
    }

    /** An element that lacks is no 0, by which a LAW SAYS MAY NOT: no WORDING and no set of LAWS makes it so. */
    private static void anEndThatLacks() {
        due.by(13, "a ROW, as of JUDGED (.. a two's end that lacks, too)");
        for (long[] row : new long[][] {{0}, {444}, {0, 0, 0}, {0, 0, 444}, new long[59]}) {
            written(new Run(), 5, 0, NOT, row);
            written(ruled(0, "1", 50, 0), 5, 0, NOT, row);
            barred(ruled(0, "1", 50, 0), 5, 0, NOT, row);
            unsaid(ruled(0, "1", 50, 0), NOT, row);
        }
        barred(ruled(0, "1", 0, 2), 5, 0, NOT, 0);
        barred(ruled(0, "1", 0, 2), 5, 0, NOT, 0, 2, 444);
        barred(ruled(0, "1", 0, 2), 5, 0, 0, 0, 0, 444);
        written(new Run(), 5, 0, 0, new long[60]);
        unsaid(ruled(0, "1", 50, 0), 0, new long[60]);
    }

    // meant

    private static void wordsMeant() {
        due.by(15, "MEANT by a WORD: in how many (what 0), the first CASE (1). BAD; NOT (what 1).");
        Run law = ruled(0, "x=1", 0, 1);
        law.moved(0, 1, 0);
        for (int bad : new int[] {-1, 3, 4, MIN, MAX}) {
            due.is(law.meant(bad, 0), BAD);
            due.is(law.meant(bad, 1), BAD);
        }
        for (int bad : new int[] {-1, 2, 3, MIN, MAX}) {
            due.is(law.meant(0, bad), BAD);
            due.is(law.meant(1, bad), BAD);
        }
        due.is(law.meant(0, 0), 40);
        due.is(law.meant(0, 1), 10);
        for (int word = 1; word < 3; word++) {
            due.is(law.meant(word, 0), 0);
            due.is(law.meant(word, 1), NOT);
        }
        Run none = new Run();
        none.moved(2, 0, 0);
        due.is(none.meant(2, 0), 0);
        due.is(none.meant(2, 1), NOT);
    }

    private static void casesMeant() {
        due.by(15, "in how many CASES the VERDICT is another one than if a WORD were not MOVED; the first; NOT.");
        Run law = ruled(0, "x=y", 0, 1);
        law.moved(0, 1, 50);
        due.is(law.meant(0, 0), 100);
        due.is(law.meant(0, 1), 10);
        law.mend(0, 4, 50);
        due.is(law.meant(0, 0), 100);
        law.mend(0, 4, 49);
        due.is(law.meant(0, 0), 0);
        due.is(law.meant(0, 1), NOT);
        law.mend(0, 4, 99);
        due.is(law.of(0, 10), 1);
        due.is(law.of(0, 5), 125);
        Run last = ruled(0, "x=4&y=4&z=3", 0, 1);
        last.moved(2, 1, 0);
        due.is(last.meant(2, 0), 1);
        due.is(last.meant(2, 1), 443);
        Run first = ruled(0, "z=1&y=0&x=0", 0, 1);
        first.moved(2, 1, 0);
        due.is(first.meant(2, 0), 1);
        due.is(first.meant(2, 1), 1);
        Run same = ruled(0, "x=1", 0, 1);
        Due.law(same, "1", 1, 1);
        same.moved(0, 1, 0);
        due.is(same.meant(0, 0), 0);
        same.mend(1, 1, 0);
        due.is(same.meant(0, 0), 40);
    }

    // false ones

    private static void unsaid(Run law, int want, long... row) {
        told(law, row);
        due.is(law.falseOnes(0), want);
    }

    private static void setsOfFalseOnes() {
        due.by(16, "of all sets of LAWS (bits) without which a ROW, as of JUDGED, is so; NOT.");
        unsaid(new Run(), 0);
        unsaid(new Run(), 0, 0, -2);
        unsaid(new Run(), NOT, 0, 1);
        Run law = new Run();
        for (int k = 0; k < 10; k++) {
            Due.law(law, "1", 10 * k, k == 9 ? 2 : 1);
        }
        unsaid(law, 0);
        unsaid(law, 0, 0, 1);
        unsaid(law, 511, 0, 2);
        unsaid(law, 1023, 0, -2);
        unsaid(law, NOT, 0, 0);
        unsaid(law, NOT, 0, 1, 444, 2);
        for (long[] no : new long[][] {{0}, {5, 1}, {0, 3}, {0, -1}, {0, 1, 0}, {0, 1, 45, 1}}) {
            unsaid(law, NOT, no);
        }
        long[] row = new long[60];
        for (int k = 1; k < 60; k += 2) {
            row[k] = 1;
        }
        unsaid(law, 0, row);
        row[59] = 2;
        unsaid(law, NOT, row);
        row[58] = 5;
        unsaid(law, NOT, row);
        unsaid(law, NOT, java.util.Arrays.copyOf(row, 59));
        unsaid(law, 0, java.util.Arrays.copyOf(row, 58));
    }

    private static void fewestAndLeastBits() {
        due.by(16, "that with fewest (of like ones the least bits); as if they were not there");
        Run law = new Run();
        Due.law(law, "x=1", 10, 0);
        Due.law(law, "x=1", 20, 1);
        Due.law(law, "1", 30, 2);
        unsaid(law, 3, 100, 2);
        unsaid(law, 1, 100, 1);
        unsaid(law, 4, 0, -2);
        unsaid(law, 4, 0, -2, 100, 0);
        unsaid(law, 5, 0, -2, 100, 1);
        law.mend(0, 3, 3);
        unsaid(law, 2, 100, 0);
        law.mend(0, 3, 0);
        law.mend(0, 2, 1);
        unsaid(law, 1, 100, 1);
        law.mend(0, 4, 29);
        unsaid(law, 0, 0, -2);
        unsaid(law, 3, 100, -2);
        Run like = new Run();
        Due.law(like, "0", 40, 0);
        Due.law(like, "0", 10, 0);
        Due.law(like, "0", 20, 0);
        Due.law(like, "1", 30, 1);
        like.mend(1, 2, 2);
        like.mend(2, 2, 3);
        unsaid(like, 0, 0, 1);
        unsaid(like, 2, 0, -2);
        like.mend(1, 2, -1);
        unsaid(like, 4, 0, 1);
        like.mend(2, 2, -1);
        unsaid(like, 8, 0, -2);
    }

    // under

    private static void lawsUnderAll() {
        due.by(17, "UNDER: in how many CASES (what 0), which LAWS fall (1, bits). BAD; STATE: it is not there.");
        Run law = ruled(0, "1", 0, 0);
        Due.law(law, "1", 99, 2);
        for (int what = 0; what < 2; what++) {
            for (int bad : new int[] {-1, 2, 3, 10, MIN, MAX}) {
                due.is(law.under(bad, what), BAD);
            }
        }
        for (int bad : new int[] {-1, 2, 3, MIN, MAX}) {
            due.is(law.under(1, bad), BAD);
        }
        due.is(law.under(1, 0), 125);
        due.is(law.under(1, 1), 0);
        law.mend(0, 4, 98);
        due.is(law.under(1, 0), STATE);
        due.is(law.under(1, 1), STATE);
        due.is(law.under(1, 2), BAD);
        due.is(law.under(1, -1), BAD);
        due.is(law.under(0, 0), 0);
        due.is(law.under(0, 1), 0);
        law.mend(0, 4, 99);
        due.is(law.under(1, 0), 125);
        due.is(new Run().under(0, 0), BAD);
    }

    private static void casesUnderAll() {
        due.by(17, "older than all (as if its DATE were -1); which LAWS (bits) that STAND would not any more");
        Run law = new Run();
        for (int k = 0; k < 10; k++) {
            Due.law(law, k == 9 ? "x=1" : "1", 0, k == 9 ? 1 : 2);
        }
        due.is(law.under(9, 0), 25);
        due.is(law.under(9, 1), 0);
        due.is(law.under(8, 0), 0);
        law.mend(9, 2, 0);
        due.is(law.under(9, 1), 1);
        due.is(law.of(0, 4), 1);
        law.mend(0, 2, 1);
        due.is(law.under(9, 1), 1);
        law.mend(1, 2, 9);
        due.is(law.under(9, 1), 1);
        law.mend(0, 2, -1);
        due.is(law.of(9, 4), 0);
        due.is(law.under(9, 0), 25);
        law.mend(9, 2, 9);
        due.is(law.under(9, 1), 0);
        due.is(law.of(9, 0), 0);
        due.is(law.of(9, 4), 0);
        law.mend(1, 2, -1);
        law.mend(0, 3, 1);
        due.is(law.under(9, 0), 25);
        law.mend(0, 3, 3);
        due.is(law.under(9, 0), 0);
    }

    // unlike

    private static void rulesUnlike() {
        due.by(18, "UNLIKE by two RULES (rs: 10 times the one and the other; 0 .. 3). BAD; NOT (what 1).");
        Run law = ruled(0, "1", 10, 0);
        for (int rs = 0; rs < 50; rs++) {
            boolean so = rs / 10 <= 3 && rs % 10 <= 3;
            due.is(law.unlike(rs, 0), so ? 0 : BAD);
            due.is(law.unlike(rs, 1), so ? NOT : BAD);
        }
        for (int bad : new int[] {-1, -3, -10, -11, -33, 50, 99, 100, 101, 133, 1000, MIN, MAX}) {
            due.is(law.unlike(bad, 0), BAD);
            due.is(law.unlike(bad, 1), BAD);
        }
        for (int bad : new int[] {-1, 2, 3, MIN, MAX}) {
            due.is(law.unlike(0, bad), BAD);
            due.is(law.unlike(33, bad), BAD);
        }
        Run none = new Run();
        due.is(none.unlike(12, 0), 0);
        due.is(none.unlike(12, 1), NOT);
    }

    private static void casesUnlike() {
        due.by(18, "in how many CASES VERDICTS by two RULES are unlike; the first; NOT.");
        Run law = new Run();
        Due.law(law, "1", 10, 2);
        Due.law(law, "1", 20, 0);
        int[] says = {2, 0, 2, 0};
        for (int rule = 0; rule < 4; rule++) {
            law.mend(0, 3, rule);
            for (int one = 0; one < 4; one++) {
                for (int other = 0; other < 4; other++) {
                    int rs = 10 * one + other;
                    due.is(law.unlike(rs, 0), says[one] == says[other] ? 0 : 125);
                    due.is(law.unlike(rs, 1), says[one] == says[other] ? NOT : 0);
                }
            }
        }
        Run last = new Run();
        Due.law(last, "1", 10, 2);
        Due.law(last, "x+y+z=12", 20, 0);
        due.is(last.unlike(1, 0), 1);
        due.is(last.unlike(1, 1), 444);
        due.is(last.unlike(12, 1), NOT);
        last.mend(1, 1, 2);
        due.is(last.unlike(1, 0), 0);
        last.mend(1, 1, 1);
        last.mend(0, 4, 19);
        due.is(last.unlike(1, 0), 0);
    }

    // rings

    private static Run tenOfDates() {
        Run law = new Run();
        for (int k = 0; k < 10; k++) {
            Due.law(law, "1", 10 * k, 1);
        }
        return law;
    }

    private static void ringsOfNoneAndTen() {
        due.by(19, "RINGS: LAWS (bits) that come back to themselves");
        due.is(new Run().rings(), 0);
        Run law = tenOfDates();
        due.is(law.rings(), 0);
        for (int k = 0; k < 9; k++) {
            law.mend(k, 2, k + 1);
            due.is(law.rings(), 0);
        }
        law.mend(9, 2, 0);
        due.is(law.rings(), 1023);
        law.mend(9, 2, 9);
        due.is(law.rings(), 512);
        law.mend(9, 2, 8);
        due.is(law.rings(), 768);
        law.mend(0, 2, 0);
        due.is(law.rings(), 769);
        Run one = new Run();
        Due.law(one, "1", 0, 0);
        one.mend(0, 2, 0);
        due.is(one.rings(), 1);
        one.mend(0, 2, 9);
        due.is(one.rings(), 0);
        one.mend(0, 2, 1);
        Due.law(one, "1", 0, 0);
        due.is(one.rings(), 0);
        one.mend(1, 2, 0);
        due.is(one.rings(), 3);
    }

    private static void ringsOfThoseThere() {
        due.by(19, "one goes from a LAW that is there to the one that it STRIKES (there)");
        Run law = tenOfDates();
        law.mend(0, 2, 1);
        law.mend(1, 2, 9);
        law.mend(9, 2, 0);
        law.mend(2, 2, 2);
        law.mend(3, 2, 2);
        due.is(law.rings(), 519);
        due.is(law.of(1, 4), 0);
        law.mend(0, 4, 90);
        due.is(law.rings(), 519);
        law.mend(0, 4, 89);
        due.is(law.rings(), 4);
        law.mend(0, 4, 20);
        due.is(law.rings(), 4);
        law.mend(0, 4, 19);
        due.is(law.rings(), 0);
    }

    // image, back

    private static void howManyImaged() {
        due.by(20, "AN IMAGE is kept: how many LAWS. (21: how many LAWS it knew. STATE: there is none.)");
        Run law = new Run();
        due.is(law.back(), STATE);
        due.is(law.image(), 0);
        due.is(law.back(), 0);
        for (int k = 1; k <= 10; k++) {
            Due.law(law, "1", k, 0);
            due.is(law.back(), k - 1);
            due.is(law.image(), k);
            due.is(law.back(), k);
        }
        due.is(law.count(0), 10);
        due.is(law.back(), 10);
        Run none = new Run();
        Due.law(none, "1", 0, 0);
        none.mend(0, 0, 5);
        due.is(none.back(), STATE);
        due.is(none.count(4), 1);
        due.is(none.of(0, 0), 5);
    }

    private static void whatAnImageKeeps() {
        due.by(21, "AN IMAGE keeps WORDS as MOVED, and DATES, what LAWS SAY, which they STRIKE."
            + " (CHANGES are forgotten)");
        Run law = ruled(1, "x=1", 50, 2);
        law.moved(0, 1, 60);
        law.moved(1, 2, 99);
        law.mend(0, 2, 9);
        due.is(law.image(), 1);
        due.is(law.count(4), 2);
        law.mend(0, 0, 0);
        law.mend(0, 1, 0);
        law.mend(0, 2, -1);
        law.mend(0, 3, 3);
        law.mend(0, 4, 70);
        law.moved(0, -1, 0);
        law.moved(1, 0, 0);
        law.moved(2, 0, 0);
        law.mend(0, 0, 10);
        law.undo();
        due.is(law.back(), 1);
        due.is(law.of(0, 0), 50);
        due.is(law.of(0, 1), 2);
        due.is(law.of(0, 2), 9);
        due.is(law.of(0, 20), 3);
        due.is(law.of(0, 21), 70);
        due.is(law.of(0, 10), 1);
        due.is(law.of(1, 10), 1);
        due.is(law.of(2, 10), 2);
        due.is(law.count(4), 0);
        due.is(law.undo(), STATE);
        due.is(law.redo(), STATE);
        law.mend(0, 4, 59);
        due.is(law.of(0, 10), 0);
        law.mend(0, 4, 60);
        due.is(law.of(0, 10), 1);
        law.mend(0, 4, 99);
        due.is(law.of(1, 10), 2);
        law.undo();
        due.is(law.back(), 1);
        due.is(law.redo(), STATE);
        due.is(law.count(4), 0);
    }

    private static void lawsThatCameSince() {
        due.by(21, "All that it keeps is as in THE IMAGE (of LAWS that came since: as they are)");
        Run law = new Run();
        law.image();
        for (int k = 0; k < 10; k++) {
            Due.law(law, "x=" + k, 10 + k, 1);
        }
        law.mend(0, 0, 5);
        law.mend(9, 2, 3);
        law.mend(9, 1, 2);
        due.is(law.back(), 0);
        due.is(law.of(0, 0), 5);
        due.is(law.of(9, 0), 19);
        due.is(law.of(9, 1), 2);
        due.is(law.of(9, 2), 3);
        due.is(law.count(0), 10);
        due.is(law.image(), 10);
        law.mend(0, 0, 6);
        law.mend(9, 1, 0);
        law.mend(9, 2, -1);
        due.is(law.back(), 10);
        due.is(law.of(0, 0), 5);
        due.is(law.of(9, 1), 2);
        due.is(law.of(9, 2), 3);
        due.is(law.of(3, 5), 25);
    }

    // undo, redo

    private static void noneToUndo() {
        due.by(22, "UNDONE: how many may still be. STATE: none. (23: DONE AGAIN: how many may still be. STATE: none.)");
        Run law = ruled(0, "1", 10, 0);
        law.moved(0, 1, 0);
        law.image();
        Due.row(law, 0, Due.BYTES, 1, 1, 1, 1, 1, 1);
        law.laws(0, 0, 1);
        due.is(law.undo(), STATE);
        due.is(law.redo(), STATE);
        due.is(law.count(4), 0);
        law.mend(0, 0, 20);
        due.is(law.redo(), STATE);
        due.is(law.count(4), 1);
        due.is(law.undo(), 0);
        due.is(law.of(0, 0), 10);
        due.is(law.undo(), STATE);
        due.is(law.count(4), 0);
        due.is(law.redo(), 0);
        due.is(law.of(0, 0), 20);
        due.is(law.redo(), STATE);
        due.is(law.count(4), 1);
        due.is(law.of(0, 10), 1);
        due.is(law.count(0), 2);
    }

    private static void fortyAtMost() {
        due.by(22, "40 at most are kept.");
        for (int many = 38; many <= 42; many++) {
            Run law = ruled(0, "1", 99, 0);
            for (int k = 0; k < many; k++) {
                law.mend(0, 0, k);
            }
            int kept = Math.min(40, many);
            due.is(law.count(4), kept);
            for (int k = kept - 1; k >= 0; k--) {
                due.is(law.undo(), k);
            }
            due.is(law.undo(), STATE);
            due.is(law.of(0, 0), many > 40 ? many - 41 : 99);
            for (int k = kept - 1; k >= 0; k--) {
                due.is(law.redo(), k);
            }
            due.is(law.redo(), STATE);
            due.is(law.of(0, 0), many - 1);
            due.is(law.count(4), kept);
        }
    }

    private static void noOtherCameBehind() {
        due.by(23, "DONE AGAIN (as long as no other came behind)");
        Run law = ruled(0, "1", 10, 0);
        for (int k = 0; k < 40; k++) {
            law.mend(0, 0, 20 + k);
        }
        due.is(law.undo(), 39);
        due.is(law.undo(), 38);
        due.is(law.mend(0, 0, 100), -2000000000);
        due.is(law.mend(0, 0, 57), 57);
        law.moved(0, 1, 0);
        Due.law(law, "1", 0, 0);
        law.image();
        due.is(law.redo(), 1);
        due.is(law.of(0, 0), 58);
        due.is(law.mend(0, 1, 2), 0);
        due.is(law.redo(), STATE);
        due.is(law.count(4), 40);
        due.is(law.undo(), 39);
        due.is(law.of(0, 1), 0);
        due.is(law.redo(), 0);
        due.is(law.mend(0, 1, 1), 2);
        due.is(law.count(4), 40);
        for (int k = 39; k >= 0; k--) {
            due.is(law.undo(), k);
        }
        due.is(law.undo(), STATE);
        due.is(law.of(0, 0), 20);
        due.is(law.mend(0, 0, 21), 20);
        due.is(law.redo(), STATE);
        due.is(law.count(4), 1);
    }

    private static void whatMayBeUndone() {
        due.by(22, "CHANGES (DATE, what LAWS SAY, which they STRIKE; RULE, TODAY) can be UNDONE, the latest first");
        Run law = new Run();
        Due.law(law, "1", 10, 0);
        Due.law(law, "1", 20, 1);
        int[][] changes = {{1, 0, 0, 20, 0}, {0, 1, 2, 0, 1}, {1, 2, 9, -1, 2}, {0, 3, 3, 0, 20}, {0, 4, 0, 99, 21},
            {1, 0, 99, 0, 0}, {0, 2, 0, -1, 2}, {0, 4, 50, 0, 21}, {1, 2, -1, 9, 2}, {0, 3, 1, 3, 20}};
        for (int[] each : changes) {
            due.is(law.mend(each[0], each[1], each[2]), each[3]);
        }
        for (int k = changes.length - 1; k >= 0; k--) {
            due.is(law.of(changes[k][0], changes[k][4]), changes[k][2]);
            due.is(law.undo(), k);
            due.is(law.of(changes[k][0], changes[k][4]), changes[k][3]);
        }
        for (int k = 0; k < changes.length; k++) {
            due.is(law.redo(), changes.length - 1 - k);
            due.is(law.of(changes[k][0], changes[k][4]), changes[k][2]);
        }
    }
}
