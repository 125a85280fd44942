/** Promises 13 to 23: laws that might be, words, false laws, laws under all, rules, rings, images, undoing. */
public final class MightTest {
    private static final Due due = new Due();
    private static final int NOT = -2;

    public static void main(String[] args) {
        wordingsInTheirOrder();
        wordingsByRule();
        wordingsOfMovedWords();
        rowsOfNoTwos();
        lawsThatBar();
        casesChangedByAWord();
        falseOnes();
        falseOnesThatStrike();
        aLawUnderAll();
        rulesUnlike();
        ringsOfLaws();
        imagesOfAll();
        undoneAndDoneAgain();
        whatStaysIsNoChange();
        theLatestForty();
        due.end();
    }

    private static void told(Run law, long... row) {
        Due.row(law, 0, Due.SHORTS, row);
    }

    private static void written(Run law, int date, int says, int want, long... row) {
        told(law, row);
        due.is(13, "write(0, " + date + ", " + says + ")", law.write(0, date, says), want);
    }

    private static void wordingsInTheirOrder() {
        Run law = new Run();
        written(law, 5, 1, 0);
        written(law, 5, 1, 0, 123, 1);
        written(law, 5, 1, NOT, 123, 2);
        written(law, 5, 1, NOT, 123, 0);
        written(law, 5, 2, 100, 123, -2);
        written(law, 5, 2, 200, 0, 2, 100, -2);
        written(law, 5, 2, 700, 100, 2, 0, -2, 200, -2);
        written(law, 5, 2, 1200, 200, 2, 100, -2, 400, 2);
        written(law, 5, 0, 1800, 10, 0, 20, -2);
        written(law, 5, 0, 2200, 10, 0, 0, -2, 20, -2);
        written(law, 5, 0, 2700, 20, 0, 10, -2, 40, 0);
        written(law, 5, 0, 3500, 3, 0, 4, -2);
        written(law, 5, 0, 4000, 4, 0, 3, -2);
        written(law, 5, 0, 4300, 4, 0, 3, 0, 2, -2);
        written(law, 5, 1, 217, 0, 1, 10, -2, 100, -2);
        written(law, 5, 1, 735, 123, 1, 124, -2, 23, -2, 223, -2);
        written(law, 5, 1, 1838, 12, 1, 22, -2, 11, -2, 13, -2, 2, 1);
        written(law, 5, 1, NOT, 0, 1, 444, 1, 222, -2);
        written(law, 5, 1, NOT, 111, 1, 11, -2, 101, -2, 110, -2, 311, -2, 131, -2, 113, -2);
        written(law, 5, 1, 411, 100, 1, 200, 1, 0, -2, 300, -2);
        written(law, 5, 1, NOT, 100, 1, 100, -2);
        written(law, 5, 1, 2843, 33, 1, 44, 1, 143, 1, 434, 1, 32, -2, 23, -2, 424, -2);
        long[] thirty = new long[60];
        for (int k = 0; k < 60; k += 2) {
            thirty[k] = k == 58 ? 400 : 100;
            thirty[k + 1] = k == 58 ? -2 : 1;
        }
        written(law, 5, 1, 300, thirty);
        due.is(13, "count(0)", law.count(0), 0);
    }

    private static void wordingsByRule() {
        Run law = new Run();
        Due.law(law, "x=0&y=0", 50, 0);
        written(law, 49, 2, 0, 0, 2);
        written(law, 50, 2, NOT, 0, 2);
        written(law, 50, 2, 0, 0, 0);
        written(law, 50, 2, 0, 0, 0, 100, 2);
        written(law, 50, 2, 100, 0, 0, 100, -2);
        written(law, 50, 2, 200, 0, 0, 10, 2, 100, -2);
        law.mend(0, 3, 1);
        written(law, 49, 2, NOT, 0, 2);
        written(law, 50, 2, 0, 0, 2);
        written(law, 51, 2, 0, 0, 2);
        law.mend(0, 3, 2);
        written(law, 49, 2, 217, 0, 2);
        written(law, 50, 2, NOT, 0, 2);
        written(law, 49, 2, 0, 0, 0);
        law.mend(0, 3, 3);
        written(law, 49, 2, NOT, 0, 2);
        written(law, 50, 1, 0, 0, 1);
        law.mend(0, 1, 2);
        written(law, 50, 0, 0, 0, 0);
        law.mend(0, 2, 0);
        law.mend(0, 4, 0);
        law.mend(0, 3, 0);
        written(law, 99, 1, 0, 0, 1);
    }

    private static void wordingsOfMovedWords() {
        Run law = new Run();
        law.moved(0, 2, 30);
        written(law, 5, 1, 500, 4, -2, 3, 1);
        written(law, 5, 1, NOT, 0, 1, 100, -2);
        law.mend(0, 4, 29);
        written(law, 5, 1, 3500, 4, -2, 3, 1);
        written(law, 5, 1, 200, 0, 1, 100, -2);
        Due.law(law, "x=0&y=0", 10, 0);
        law.mend(0, 4, 99);
        law.mend(0, 3, 2);
        law.moved(1, 2, 0);
        due.is(13, "of(0, 5)", law.of(0, 5), 25);
        written(law, 50, 2, NOT, 0, 2);
        written(law, 9, 2, 200, 0, 2);
        due.is(14, "bars(0, 9, 2)", law.bars(0, 9, 2), NOT);
        due.is(14, "bars(0, 50, 2)", law.bars(0, 50, 2), 0);
        law.moved(2, 0, 0);
        due.is(13, "write(0, 50, 2)", law.write(0, 50, 2), 232);
        due.is(14, "bars(0, 50, 2)", law.bars(0, 50, 2), NOT);
    }

    private static void rowsOfNoTwos() {
        Run law = new Run();
        int[][] bad = {{-1, 0, 0}, {6, 0, 0}, {0, -1, 0}, {0, 100, 0}, {0, 0, -1}, {0, 0, 3}};
        for (int[] each : bad) {
            due.is(13, "write(" + each[0] + ", ..)", law.write(each[0], each[1], each[2]), -1);
            due.is(14, "bars(" + each[0] + ", ..)", law.bars(each[0], each[1], each[2]), -1);
        }
        due.is(16, "falseOnes(-1)", law.falseOnes(-1), -1);
        due.is(16, "falseOnes(6)", law.falseOnes(6), -1);
        due.is(13, "write(1, 0, 0)", law.write(1, 0, 0), -11);
        due.is(14, "bars(1, 0, 0)", law.bars(1, 0, 0), -11);
        due.is(16, "falseOnes(1)", law.falseOnes(1), -11);
        law.body(0);
        for (int sort = 0; sort <= 5; sort++) {
            int is = sort == 5 ? law.keep(1, 0) : law.row(1, sort, 0);
            due.is(28, "row(1, ..)", is, 1);
            if (sort != Due.SHORTS) {
                due.is(13, "write(1, 0, 0) of " + sort, law.write(1, 0, 0), -12);
                due.is(14, "bars(1, 0, 0) of " + sort, law.bars(1, 0, 0), -12);
                due.is(16, "falseOnes(1) of " + sort, law.falseOnes(1), -12);
                due.is(13, "write(1, 100, 0) of " + sort, law.write(1, 100, 0), -1);
            }
        }
        long[][] rows = {{0}, {5, -2}, {0, 3}, {0, -1}, {0, 0, 445, 0}, {0, 0, 0}};
        for (long[] row : rows) {
            told(law, row);
            due.is(13, "write(0, 0, 0)", law.write(0, 0, 0), NOT);
            due.is(14, "bars(0, 0, 0)", law.bars(0, 0, 0), NOT);
            due.is(16, "falseOnes(0)", law.falseOnes(0), NOT);
        }
        told(law);
        due.is(13, "write(0, 0, 0) of none", law.write(0, 0, 0), 0);
        due.is(14, "bars(0, 0, 0) of none", law.bars(0, 0, 0), NOT);
        due.is(16, "falseOnes(0) of none", law.falseOnes(0), 0);
    }

    private static void barred(Run law, int date, int says, int want, long... row) {
        told(law, row);
        due.is(14, "bars(0, " + date + ", " + says + ")", law.bars(0, date, says), want);
    }

    private static void lawsThatBar() {
        Run law = new Run();
        barred(law, 5, 1, NOT, 0, 1);
        barred(law, 5, 1, NOT, 0, 2);
        barred(law, 5, 1, NOT, 0, -2);
        Due.law(law, "x=1", 50, 0);
        Due.law(law, "x<3", 60, 2);
        barred(law, 49, 1, NOT, 100, 1, 100, 0, 200, 2, 300, -2, 300, 1);
        barred(law, 49, 1, 0, 200, 1, 100, 2);
        barred(law, 49, 1, 0, 100, -2);
        barred(law, 49, 1, 1, 200, -2);
        barred(law, 49, 1, NOT, 300, 2);
        barred(law, 50, 1, 0, 100, 1);
        barred(law, 50, 1, 0, 200, 2, 200, 1, 100, 1, 200, 0);
        barred(law, 50, 1, 1, 200, 0, 100, 1);
        barred(law, 60, 1, 1, 200, 1);
        barred(law, 59, 1, NOT, 200, 1);
        barred(law, 59, 1, NOT, 300, 2, 200, 0);
        barred(law, 50, 1, 1, 300, 1, 200, 0);
        barred(law, 50, 1, NOT, 0, 3, 200, 0);
        barred(law, 50, 1, NOT, 300, 1, 100, -1, 200, 0);
        barred(law, 50, 1, NOT, 5, 1, 200, 0);
        barred(law, 50, 1, NOT, -1, 1, 200, 0);
        barred(law, 50, 1, 1, 200, 0, 0, 3);
        barred(law, 50, 1, 1, 200, 0, 5, 1, 100);
        barred(law, 50, 1, NOT, 100);
        law.mend(0, 3, 1);
        barred(law, 49, 1, 1, 100, 1);
        barred(law, 60, 1, NOT, 100, 1);
        law.mend(0, 3, 2);
        barred(law, 99, 1, NOT, 100, 1);
        Due.law(law, "x=1&y=1", 60, 2);
        barred(law, 60, 1, 2, 110, 1);
        barred(law, 59, 1, NOT, 110, 1);
        law.mend(0, 3, 3);
        barred(law, 99, 1, NOT, 110, 1);
        barred(law, 49, 2, 0, 110, 2);
        due.is(14, "bars(0, 100, 2)", law.bars(0, 100, 2), -1);
    }

    private static void meant(Run law, int word, int many, int first) {
        due.is(15, "meant(" + word + ", 0)", law.meant(word, 0), many);
        due.is(15, "meant(" + word + ", 1)", law.meant(word, 1), first);
    }

    private static void casesChangedByAWord() {
        Run law = new Run();
        meant(law, 0, 0, NOT);
        Due.law(law, "x=1", 10, 1);
        meant(law, 0, 0, NOT);
        law.moved(0, 2, 40);
        meant(law, 0, 40, 1);
        meant(law, 1, 0, NOT);
        meant(law, 2, 0, NOT);
        law.moved(2, 1, 40);
        meant(law, 0, 40, 1);
        meant(law, 2, 0, NOT);
        Due.law(law, "z=1", 20, 1);
        meant(law, 2, 20, 10);
        due.is(15, "of(2, 10)", law.of(2, 10), 1);
        law.mend(0, 4, 39);
        meant(law, 0, 0, NOT);
        law.mend(0, 4, 40);
        law.mend(1, 2, 0);
        law.mend(1, 0, 0);
        meant(law, 0, 0, NOT);
        due.is(15, "meant(3, 0)", law.meant(3, 0), -1);
        due.is(15, "meant(-1, 0)", law.meant(-1, 0), -1);
        due.is(15, "meant(0, 2)", law.meant(0, 2), -1);
        due.is(15, "meant(0, -1)", law.meant(0, -1), -1);
        Run narrow = new Run();
        Due.law(narrow, "x=1|y=1|x=2", 10, 2);
        Due.law(narrow, "z<2", 20, 0);
        narrow.mend(0, 3, 2);
        narrow.moved(0, 1, 0);
        meant(narrow, 0, 47, 10);
    }

    private static void unsaid(Run law, int want, long... row) {
        told(law, row);
        due.is(16, "falseOnes(0)", law.falseOnes(0), want);
    }

    private static void falseOnes() {
        Run law = new Run();
        unsaid(law, 0, 0, -2);
        unsaid(law, NOT, 0, 1);
        Due.law(law, "x=0", 10, 0);
        Due.law(law, "y=0", 20, 1);
        Due.law(law, "1", 30, 2);
        unsaid(law, 0, 0, 0, 100, 1, 110, 2);
        unsaid(law, 1, 0, 1);
        unsaid(law, 3, 0, 2);
        unsaid(law, 7, 0, -2);
        unsaid(law, 2, 100, 2);
        unsaid(law, 6, 100, -2, 10, 0);
        unsaid(law, NOT, 100, 0);
        unsaid(law, NOT, 0, 1, 10, 0);
        law.mend(0, 4, 25);
        unsaid(law, 3, 0, -2);
        law.mend(0, 4, 99);
        law.mend(0, 3, 1);
        unsaid(law, 4, 0, 1);
        unsaid(law, 6, 0, 0);
        law.mend(0, 3, 2);
        unsaid(law, 1, 0, 1);
        law.mend(0, 3, 3);
        unsaid(law, 2, 0, 0);
        due.is(16, "count(1): all are there yet", law.count(1), 3);
    }

    private static void falseOnesThatStrike() {
        Run law = new Run();
        Due.law(law, "0", 10, 0);
        Due.law(law, "0", 20, 0);
        Due.law(law, "1", 30, 2);
        law.mend(0, 2, 1);
        law.mend(1, 2, 2);
        unsaid(law, 0, 0, 2);
        unsaid(law, 1, 0, -2);
        law.mend(1, 2, -1);
        unsaid(law, 4, 0, -2);
        Run other = new Run();
        Due.law(other, "1", 50, 2);
        Due.law(other, "1", 50, 2);
        Due.law(other, "0", 30, 2);
        Due.law(other, "1", 40, 1);
        Due.law(other, "1", 90, 1);
        other.mend(2, 2, 3);
        unsaid(other, 4, 444, 1);
        for (int k = 5; k < 10; k++) {
            Due.law(other, "1", 1, 0);
        }
        unsaid(other, 1023 - 31 + 4, 444, 1);
        unsaid(other, 1023 - 4 - 8, 444, -2);
        Run ten = new Run();
        for (int k = 0; k < 10; k++) {
            Due.law(ten, "1", 10, 1);
        }
        unsaid(ten, 1023, 444, -2);
    }

    private static void under(Run law, int number, int many, int fallen) {
        due.is(17, "under(" + number + ", 0)", law.under(number, 0), many);
        due.is(17, "under(" + number + ", 1)", law.under(number, 1), fallen);
    }

    private static void aLawUnderAll() {
        Run law = new Run();
        Due.law(law, "x=0", 0, 0);
        Due.law(law, "y=0", 20, 1);
        Due.law(law, "x<2", 30, 0);
        under(law, 0, 0, 0);
        under(law, 1, 5, 0);
        under(law, 2, 5, 0);
        law.mend(1, 2, 0);
        under(law, 1, 5, 1);
        law.mend(2, 2, 1);
        under(law, 2, 20, 2);
        law.mend(0, 2, 2);
        under(law, 2, 40, 2);
        under(law, 1, 25, 1);
        under(law, 0, 0, 0);
        due.is(17, "of(2, 0): its date is as it was", law.of(2, 0), 30);
        law.mend(0, 3, 1);
        under(law, 1, 30, 1);
        law.mend(0, 3, 0);
        law.mend(0, 4, 29);
        due.is(17, "under(2, 0)", law.under(2, 0), -5);
        due.is(17, "under(2, 1)", law.under(2, 1), -5);
        due.is(17, "under(2, 2)", law.under(2, 2), -1);
        due.is(17, "under(2, -1)", law.under(2, -1), -1);
        due.is(17, "under(3, 0)", law.under(3, 0), -1);
        due.is(17, "under(-1, 0)", law.under(-1, 0), -1);
        Run dated = new Run();
        Due.law(dated, "d<0", 50, 1);
        Due.law(dated, "1", 0, 2);
        under(dated, 0, 125, 0);
        dated.mend(1, 2, 0);
        under(dated, 0, 125, 0);
        under(dated, 1, 0, 0);
    }

    private static void unlike(Run law, int rs, int many, int first) {
        due.is(18, "unlike(" + rs + ", 0)", law.unlike(rs, 0), many);
        due.is(18, "unlike(" + rs + ", 1)", law.unlike(rs, 1), first);
    }

    private static void rulesUnlike() {
        Run law = new Run();
        unlike(law, 3, 0, NOT);
        Due.law(law, "x<3", 10, 2);
        Due.law(law, "y=1", 20, 0);
        Due.law(law, "z>1&y>0", 30, 2);
        int[][] want = {{1, 12, 10}, {2, 15, 10}, {3, 15, 10}, {12, 15, 12}, {13, 15, 12}, {23, 0, NOT}};
        for (int rule = 0; rule < 4; rule++) {
            law.mend(0, 3, rule);
            for (int[] each : want) {
                unlike(law, each[0], each[1], each[2]);
                unlike(law, each[0] % 10 * 10 + each[0] / 10, each[1], each[2]);
            }
            unlike(law, 11 * rule, 0, NOT);
        }
        int[] bad = {-1, -10, 4, 9, 40, 34, 43, 44, 100, Integer.MIN_VALUE, Integer.MAX_VALUE};
        for (int rs : bad) {
            unlike(law, rs, -1, -1);
        }
        Run ends = new Run();
        Due.law(ends, "x=y&y=z", 10, 2);
        Due.law(ends, "x+y+z=0|x+y+z=12", 20, 1);
        unlike(ends, 1, 2, 0);
        ends.mend(1, 0, 10);
        unlike(ends, 10, 2, 0);
        due.is(18, "unlike(1, 2)", law.unlike(1, 2), -1);
        due.is(18, "unlike(1, -1)", law.unlike(1, -1), -1);
    }

    private static void ringsOfLaws() {
        Run law = new Run();
        due.is(19, "rings()", law.rings(), 0);
        for (int k = 0; k < 10; k++) {
            Due.law(law, "1", 10 + k, 0);
        }
        due.is(19, "rings()", law.rings(), 0);
        law.mend(0, 2, 0);
        due.is(19, "rings() of one", law.rings(), 1);
        law.mend(0, 2, 1);
        due.is(19, "rings()", law.rings(), 0);
        law.mend(1, 2, 2);
        law.mend(2, 2, 1);
        due.is(19, "rings() of two and who leads to them", law.rings(), 6);
        law.mend(5, 2, 5);
        due.is(19, "rings() of two rings", law.rings(), 38);
        law.mend(0, 4, 11);
        due.is(19, "rings(), one is not there", law.rings(), 0);
        law.mend(0, 4, 12);
        due.is(19, "rings(), two are there", law.rings(), 6);
        law.mend(0, 4, 99);
        for (int k = 0; k < 10; k++) {
            law.mend(k, 2, (k + 3) % 10);
        }
        due.is(19, "rings() of ten", law.rings(), 1023);
        law.mend(4, 2, 2);
        due.is(19, "rings() of ten but one", law.rings(), (1 << 2) + (1 << 5) + (1 << 8) + (1 << 1) + (1 << 4));
        law.mend(4, 2, -1);
        due.is(19, "rings()", law.rings(), 0);
        Run missing = new Run();
        Due.law(missing, "1", 0, 0);
        missing.mend(0, 2, 1);
        due.is(19, "rings(), who is struck is missing", missing.rings(), 0);
    }

    private static void all(int promise, Run law, int number, int date, int says, int strikes) {
        due.is(promise, "of(" + number + ", 0)", law.of(number, 0), date);
        due.is(promise, "of(" + number + ", 1)", law.of(number, 1), says);
        due.is(promise, "of(" + number + ", 2)", law.of(number, 2), strikes);
    }

    private static void imagesOfAll() {
        Run law = new Run();
        due.is(21, "back()", law.back(), -5);
        due.is(20, "image()", law.image(), 0);
        due.is(21, "back()", law.back(), 0);
        Due.law(law, "1", 10, 0);
        Due.law(law, "x", 20, 1);
        law.mend(1, 2, 0);
        law.moved(0, 1, 50);
        due.is(20, "image()", law.image(), 2);
        due.is(20, "count(4): changes are not forgotten by it", law.count(4), 1);
        law.mend(0, 0, 30);
        law.mend(0, 1, 2);
        law.mend(1, 2, 7);
        law.mend(0, 3, 2);
        law.mend(0, 4, 60);
        law.moved(0, 2, 40);
        law.moved(1, 2, 40);
        Due.law(law, "y", 40, 1);
        law.mend(2, 0, 41);
        law.undo();
        due.is(21, "back()", law.back(), 2);
        all(21, law, 0, 10, 0, -1);
        all(21, law, 1, 20, 1, 0);
        all(21, law, 2, 40, 1, -1);
        due.is(21, "of(0, 10)", law.of(0, 10), 1);
        due.is(21, "of(1, 10)", law.of(1, 10), 1);
        due.is(21, "of(0, 20)", law.of(0, 20), 2);
        due.is(21, "of(0, 21)", law.of(0, 21), 60);
        due.is(21, "count(0)", law.count(0), 3);
        due.is(21, "count(4)", law.count(4), 0);
        due.is(21, "undo()", law.undo(), -5);
        due.is(21, "redo()", law.redo(), -5);
        law.mend(0, 4, 49);
        due.is(21, "of(0, 10) before the date it was moved", law.of(0, 10), 0);
        law.mend(0, 4, 50);
        due.is(21, "of(0, 10) on the date it was moved", law.of(0, 10), 1);
        law.mend(1, 0, 90);
        due.is(21, "back() once more", law.back(), 2);
        all(21, law, 1, 20, 1, 0);
        due.is(20, "image()", law.image(), 3);
        law.mend(2, 0, 5);
        law.moved(0, -1, 0);
        due.is(21, "back()", law.back(), 3);
        all(21, law, 2, 40, 1, -1);
        due.is(21, "of(0, 10)", law.of(0, 10), 1);
    }

    private static void undoneAndDoneAgain() {
        Run law = new Run();
        due.is(22, "undo()", law.undo(), -5);
        due.is(23, "redo()", law.redo(), -5);
        Due.law(law, "x=1", 10, 0);
        due.is(22, "undo()", law.undo(), -5);
        int[][] changes = {{0, 0, 20}, {0, 1, 2}, {0, 2, 3}, {0, 3, 1}, {0, 4, 50}};
        int[] asked = {0, 1, 2, 20, 21};
        int[] first = {10, 0, -1, 0, 99};
        for (int[] each : changes) {
            law.mend(each[0], each[1], each[2]);
        }
        due.is(33, "count(4)", law.count(4), 5);
        for (int k = 4; k >= 0; k--) {
            due.is(22, "undo()", law.undo(), k);
            due.is(22, "of(0, " + asked[k] + ")", law.of(0, asked[k]), first[k]);
            due.is(22, "count(4)", law.count(4), k);
        }
        due.is(22, "undo()", law.undo(), -5);
        for (int k = 0; k < 5; k++) {
            due.is(23, "of(0, " + asked[k] + ")", law.of(0, asked[k]), first[k]);
            due.is(23, "redo()", law.redo(), 4 - k);
            due.is(23, "of(0, " + asked[k] + ")", law.of(0, asked[k]), changes[k][2]);
            due.is(23, "count(4)", law.count(4), k + 1);
        }
        due.is(23, "redo()", law.redo(), -5);
        law.undo();
        law.undo();
        law.mend(0, 5, 0);
        law.moved(0, 1, 0);
        Due.law(law, "1", 0, 0);
        law.image();
        due.is(23, "redo(): what was BAD came not behind", law.redo(), 1);
        due.is(5, "mend(0, 0, 7)", law.mend(0, 0, 7), 20);
        due.is(23, "redo(): another came behind", law.redo(), -5);
        due.is(22, "undo()", law.undo(), 4);
        due.is(22, "of(0, 0)", law.of(0, 0), 20);
        due.is(22, "undo()", law.undo(), 3);
        due.is(22, "of(0, 20)", law.of(0, 20), 0);
        due.is(23, "redo()", law.redo(), 1);
        due.is(23, "redo()", law.redo(), 0);
        due.is(23, "of(0, 0)", law.of(0, 0), 7);
        due.is(22, "of(0, 10): words are not undone", law.of(0, 10), 1);
    }

    private static void whatStaysIsNoChange() {
        Run law = new Run();
        Due.law(law, "x=1", 10, 2);
        int[][] same = {{0, 10}, {1, 2}, {2, -1}, {3, 0}, {4, 99}};
        for (int[] each : same) {
            due.is(5, "mend(0, " + each[0] + ", " + each[1] + ")", law.mend(0, each[0], each[1]), each[1]);
            due.is(33, "count(4): " + each[0] + " is as it was", law.count(4), 0);
            due.is(22, "undo()", law.undo(), -5);
        }
        int[][] other = {{0, 20}, {1, 0}, {2, 0}, {3, 1}, {4, 50}};
        for (int k = 0; k < 5; k++) {
            due.is(5, "mend(0, " + k + ", ..)", law.mend(0, other[k][0], other[k][1]), same[k][1]);
            due.is(5, "mend(0, " + k + ", ..)", law.mend(0, other[k][0], other[k][1]), other[k][1]);
            due.is(33, "count(4)", law.count(4), k + 1);
        }
        law.undo();
        law.undo();
        law.mend(0, 3, 0);
        law.mend(0, 0, 20);
        due.is(33, "count(4)", law.count(4), 3);
        due.is(23, "redo(): nothing came behind", law.redo(), 1);
        due.is(23, "of(0, 20)", law.of(0, 20), 1);
        law.mend(0, 0, 21);
        due.is(23, "redo(): another came behind", law.redo(), -5);
        due.is(22, "undo()", law.undo(), 4);
        due.is(22, "of(0, 0)", law.of(0, 0), 20);
        for (int k = 0; k < 45; k++) {
            law.mend(0, 0, 20);
        }
        due.is(33, "count(4)", law.count(4), 4);
        due.is(23, "redo()", law.redo(), 0);
    }

    private static void theLatestForty() {
        Run law = new Run();
        Due.law(law, "x=1", 99, 0);
        for (int k = 0; k < 45; k++) {
            law.mend(0, 0, k);
            due.is(33, "count(4)", law.count(4), Math.min(k + 1, 40));
        }
        for (int k = 39; k >= 0; k--) {
            due.is(22, "undo()", law.undo(), k);
            due.is(22, "of(0, 0)", law.of(0, 0), k + 4);
        }
        due.is(22, "undo()", law.undo(), -5);
        due.is(22, "of(0, 0)", law.of(0, 0), 4);
        for (int k = 0; k < 40; k++) {
            due.is(23, "redo()", law.redo(), 39 - k);
            due.is(23, "of(0, 0)", law.of(0, 0), k + 5);
        }
        due.is(23, "redo()", law.redo(), -5);
        law.undo();
        due.is(5, "mend(0, 0, 77)", law.mend(0, 0, 77), 43);
        due.is(33, "count(4)", law.count(4), 40);
        due.is(23, "redo()", law.redo(), -5);
        due.is(22, "undo()", law.undo(), 39);
        due.is(22, "of(0, 0)", law.of(0, 0), 43);
        changesOfAllKinds();
    }

    /** As many changes as make the first ones be dropped, each of another law and kind than the next. */
    private static void changesOfAllKinds() {
        Run law = new Run();
        Due.law(law, "1", 0, 0);
        Due.law(law, "1", 0, 0);
        Due.law(law, "1", 0, 0);
        law.mend(1, 1, 1);
        due.is(22, "undo()", law.undo(), 0);
        due.is(22, "of(1, 1)", law.of(1, 1), 0);
        due.is(23, "redo()", law.redo(), 0);
        due.is(23, "of(1, 1)", law.of(1, 1), 1);
        int[][] was = new int[44][];
        for (int k = 0; k < 44; k++) {
            int number = k % 3, what = k % 5 > 2 ? 2 : k % 5;
            int before = law.of(number, what);
            was[k] = new int[] {number, what, before};
            law.mend(number, what, what == 0 ? k + 1 : (before + 1 + k % 2) % (what == 1 ? 3 : 10));
        }
        for (int k = 43; k >= 4; k--) {
            due.is(22, "undo()", law.undo(), k - 4);
            due.is(22, "of(" + was[k][0] + ", " + was[k][1] + ")", law.of(was[k][0], was[k][1]), was[k][2]);
        }
        due.is(22, "undo()", law.undo(), -5);
    }
}
