/** Promises 1 to 7, with Terms 1 and what Terms 4 says of LAWS FROM A ROW: a test for each sentence with an edge. */
public final class LawEdgesTest {
    private static final Due due = new Due();
    private static final int BAD = -1, FULL = -3, MIN = Integer.MIN_VALUE, MAX = Integer.MAX_VALUE;
    private static final int VOID = -2000000000;

    public static void main(String[] args) {
        theConstants();
        nothingAtFirst();
        defaultsAtFirst();
        theLastCall();
        bytesFed();
        aFullTape();
        datesOfALaw();
        sayingsOfALaw();
        theTapeIsEmptyThen();
        theFaultOfALaw();
        tenLaws();
        shelfAndManyOfLaws();
        fromPlaceOn();
        sixesThatEnd();
        eachOfASix();
        sixesWhenFull();
        noRowOfBytes();
        theTextIsThatOneComparison();
        datesMended();
        datesAndDaysNamed();
        sayingsMended();
        strikesMended();
        ruleAndTodayMended();
        whatIsMended();
        whatIsMendedToTheSame();
        wordsMoved();
        movedFromADateOn();
        movedOnceMore();
        notMovedOn();
        ofALaw();
        ofAWordAndTheRest();
        thereOrNot();
        olderOnes();
        whoStands();
        speaksInHowMany();
        due.end();
    }

    private static void theConstants() {
        due.by(1, "BAD = -1, NOT = -2, FULL = -3, STATE = -5, VOID = -2000000000");
        due.is(OldestLaw.BAD, BAD);
        due.is(OldestLaw.NOT, -2);
        due.is(OldestLaw.FULL, FULL);
        due.is(OldestLaw.STATE, -5);
        due.is(OldestLaw.VOID, VOID);
    }

    private static void nothingAtFirst() {
        due.by(1, "No laws.");
        Run law = new Run();
        for (int what = 0; what <= 6; what++) {
            due.is(law.count(what), 0);
        }
        for (int what = 0; what <= 5; what++) {
            due.is(law.of(0, what), VOID);
        }
        due.is(law.speaks(0, 0), BAD);
        due.is(law.under(0, 0), BAD);
        due.is(law.mend(0, 0, 0), VOID);
        due.is(law.never(), 0);
        due.is(law.rings(), 0);
        due.is(law.undo(), -5);
        due.is(law.redo(), -5);
        due.is(law.back(), -5);
        due.is(law.trace(0), BAD);
        due.is(law.act(0, 0, 1), 0);
        due.is(law.keep(0, 0), BAD);
        for (int shelf = 0; shelf < 6; shelf++) {
            due.is(law.judge(shelf), -11);
            due.is(law.put(shelf, 0, 0), -11);
            due.is(law.taken(shelf, 0), -11);
        }
        due.is(law.law(0, 0), -100);
    }

    private static void defaultsAtFirst() {
        due.by(1, "STRIKES (-1: none, at first); TODAY (99 at first); RULE (0 at first); WORDS (-1, never: at first)");
        Run law = new Run();
        due.is(law.of(0, 21), 99);
        due.is(law.of(0, 20), 0);
        for (int word = 0; word < 3; word++) {
            due.is(law.of(word, 10), word);
            due.is(law.meant(word, 0), 0);
        }
        Due.law(law, "x=1&y=2&z=3", 99, 2);
        Due.law(law, "1", 98, 0);
        due.is(law.of(0, 2), -1);
        due.is(law.of(0, 3), 1);
        due.is(law.speaks(0, 123), 1);
        due.is(law.of(0, 5), 1);
        due.is(law.verdict(123, 1), 1);
    }

    private static void theLastCall() {
        due.by(1, "An object is used for at most 512 calls after it has been made");
        Run law = new Run();
        while (law.callsLeft() > 70) {
            law.mend(0, 4, law.callsLeft() % 100);
        }
        Due.feed(law, "0" + "+0".repeat(28) + "+1");
        while (law.callsLeft() > 4) {
            law.mend(0, 3, law.callsLeft() % 4);
        }
        due.is(law.feed('0'), 60);
        due.is(law.law(0, 1), 0);
        due.is(law.count(4), 40);
        due.is(law.of(0, 5), 125);
        due.is(law.callsLeft(), 0);
    }

    private static void bytesFed() {
        due.by(2, "A byte (0 .. 255) comes to THE TAPE: how many it has. BAD");
        for (int from = 0; from < 256; from += 32) {
            Run law = new Run();
            for (int letter = from; letter < from + 32; letter++) {
                due.is(law.feed(letter), letter - from + 1);
            }
            due.is(law.count(3), 32);
        }
        Run law = new Run();
        law.feed('x');
        for (int letter : new int[] {-1, 256, 257, -256, 376, 511, MIN, MAX}) {
            due.is(law.feed(letter), BAD);
            due.is(law.count(3), 1);
        }
        law.feed('>');
        due.is(law.feed('2'), 3);
        due.is(law.law(0, 0), 0);
        due.is(law.of(0, 5), 50);
    }

    private static void aFullTape() {
        due.by(2, "FULL (60)");
        Run law = new Run();
        Due.feed(law, "0" + "+0".repeat(28) + "+1");
        due.is(law.count(3), 59);
        due.is(law.feed('1'), 60);
        due.is(law.feed('1'), FULL);
        due.is(law.feed(0), FULL);
        due.is(law.feed(256), BAD);
        due.is(law.feed(-1), BAD);
        due.is(law.count(3), 60);
        due.is(law.law(0, 0), 0);
        due.is(law.of(0, 5), 125);
        due.is(law.count(3), 0);
        due.is(law.feed('x'), 1);
        for (int k = 2; k <= 60; k++) {
            due.is(law.feed('x'), k);
        }
        due.is(law.feed('x'), FULL);
        due.is(law.law(0, 0), -101);
        due.is(law.feed('x'), 1);
    }

    private static void datesOfALaw() {
        due.by(3, "a DATE (0 .. 99)");
        Run law = new Run();
        Due.feed(law, "x");
        for (int date : new int[] {-1, 100, 101, 999, MIN, MAX}) {
            due.is(law.law(date, 0), BAD);
            due.is(law.law(date, 3), BAD);
        }
        due.is(law.count(3), 1);
        due.is(law.law(0, 0), 0);
        due.is(Due.law(law, "x", 99, 0), 1);
        due.is(law.of(0, 0), 0);
        due.is(law.of(1, 0), 99);
        due.is(law.count(0), 2);
    }

    private static void sayingsOfALaw() {
        due.by(3, "what it SAYS (0 MAY NOT, 1 MAY, 2 MUST)");
        Run law = new Run();
        Due.feed(law, "1");
        for (int says : new int[] {-1, -2, 3, 4, MIN, MAX}) {
            due.is(law.law(0, says), BAD);
        }
        due.is(law.count(0), 0);
        due.is(law.law(0, 0), 0);
        for (int says = 0; says < 3; says++) {
            due.is(says == 0 ? 0 : Due.law(law, "1", 0, says), says);
            due.is(law.of(says, 1), says);
            law.mend(says, 0, 3 - says);
            due.is(law.verdict(444, 0), says);
        }
    }

    private static void theTapeIsEmptyThen() {
        due.by(3, "A LAW whose TEXT is THE TAPE (it is empty then)");
        Run law = new Run();
        due.is(Due.law(law, "x>2", 0, 0), 0);
        due.is(law.count(3), 0);
        due.is(law.law(0, 0), -100);
        due.is(law.count(3), 0);
        due.is(law.feed('y'), 1);
        due.is(law.law(0, 0), 1);
        due.is(law.of(0, 5), 50);
        due.is(law.of(1, 5), 100);
    }

    private static void theFaultOfALaw() {
        due.by(3, "-100 less the FAULT (no LAW comes)");
        Run law = new Run();
        due.is(law.law(0, 0), -100);
        due.is(Due.law(law, "x>", 0, 0), -102);
        due.is(law.count(3), 0);
        due.is(law.count(0), 0);
        due.is(law.never(), 0);
        due.is(Due.law(law, "z=4", 7, 2), 0);
        due.is(Due.law(law, "qx", 9, 1), -100);
        due.is(law.count(0), 1);
        due.is(law.of(1, 0), VOID);
        due.is(law.of(0, 0), 7);
        due.is(law.of(0, 5), 25);
        due.is(Due.law(law, "1" + "+1".repeat(29) + ")", 9, 1), -159);
        due.is(Due.law(law, "1", 9, 1), 1);
        due.is(law.of(1, 5), 125);
    }

    private static Run withLaws(int many) {
        Run law = new Run();
        for (int k = 0; k < many; k++) {
            Due.law(law, "1", 10 + k, k % 3);
        }
        return law;
    }

    private static void tenLaws() {
        due.by(3, "BAD, FULL: 10 (THE TAPE stays)");
        Run law = withLaws(9);
        due.is(law.count(0), 9);
        due.is(Due.law(law, "x=1", 5, 1), 9);
        Due.feed(law, "y");
        due.is(law.law(5, 1), FULL);
        due.is(law.law(100, 1), BAD);
        due.is(law.law(-1, 1), BAD);
        due.is(law.law(5, 3), BAD);
        due.is(law.law(5, -1), BAD);
        due.is(law.count(3), 1);
        due.is(law.count(0), 10);
        due.is(law.feed('='), 2);
        due.is(law.law(5, 1), FULL);
        due.is(law.count(3), 2);
        due.is(law.of(9, 5), 25);
        due.is(law.of(10, 0), VOID);
    }

    // laws from a row

    private static final long[] SIX = {10, 1, -1, 0, 1, 3};

    private static long[] sixes(int many, int more) {
        long[] row = new long[6 * many + more];
        for (int k = 0; k < row.length; k++) {
            row[k] = SIX[k % 6];
        }
        return row;
    }

    private static Run withRow(long... row) {
        Run law = new Run();
        Due.row(law, 0, Due.BYTES, row);
        return law;
    }

    private static void shelfAndManyOfLaws() {
        due.by(4, "on a SHELF, n (1 .. 10) of them: BAD");
        Run law = withRow(sixes(10, 0));
        for (int n : new int[] {0, -1, 11, 12, MIN, MAX}) {
            due.is(law.laws(0, 0, n), BAD);
            due.is(law.laws(0, -1, n), BAD);
            due.is(law.laws(1, 0, n), BAD);
        }
        for (int shelf : new int[] {-1, 6, MIN, MAX}) {
            due.is(law.laws(shelf, 0, 1), BAD);
            due.is(law.laws(shelf, -1, 1), BAD);
        }
        law.row(2, Due.INTS, 6);
        due.is(law.laws(2, 0, 0), BAD);
        due.is(law.laws(2, 0, 11), BAD);
        due.is(law.count(0), 0);
        due.is(law.laws(0, 0, 1), 1);
        due.is(withRow(sixes(10, 0)).laws(0, 0, 10), 10);
        Run last = new Run();
        Due.row(last, 5, Due.BYTES, SIX);
        due.is(last.laws(5, 0, 1), 1);
    }

    private static void fromPlaceOn() {
        due.by(4, "from place i on: how many came (0 with i below 0)");
        Run law = withRow(sixes(3, 0));
        for (int i : new int[] {-1, -6, MIN, 13, 17, 18, 19, 60, MAX, MAX - 5, MAX - 6}) {
            due.is(law.laws(0, i, 1), 0);
            due.is(law.laws(0, i, 10), 0);
        }
        due.is(law.count(0), 0);
        due.is(law.laws(0, 12, 1), 1);
        due.is(law.laws(0, 6, 10), 2);
        due.is(law.laws(0, 0, 2), 2);
        due.is(law.count(0), 5);
    }

    private static void sixesThatEnd() {
        due.by(4, "it ends where the row is missing, ends (within a six, too)");
        due.is(new Run().laws(0, 0, 1), 0);
        due.is(new Run().laws(0, -1, 10), 0);
        for (int size = 0; size <= 13; size++) {
            Run law = withRow(sixes(0, size));
            due.is(law.laws(0, 0, 10), size / 6);
            due.is(law.count(0), size / 6);
        }
        for (int more = 1; more < 6; more++) {
            Run law = withRow(sixes(8, more));
            due.is(law.laws(0, more, 10), 0);
            due.is(law.laws(0, 0, 10), 8);
        }
        due.is(withRow(sixes(9, 5)).laws(0, 0, 10), 9);
        due.is(withRow(sixes(10, 0)).laws(0, 6, 10), 9);
    }

    private static void eachOfASix() {
        due.by(4, "DATE, SAYS, STRIKES (-1: none), WORD (0 .. 2), sign (0 <, 1 =, 2 >), number (0 .. 9); one is not as"
            + " it may be: those ahead came");
        int[] least = {0, 0, -1, 0, 0, 0}, most = {99, 2, 9, 2, 2, 9};
        for (int place = 0; place < 6; place++) {
            for (int v : new int[] {least[place], most[place]}) {
                long[] row = sixes(3, 0);
                row[6 + place] = v;
                Run law = withRow(row);
                due.is(law.laws(0, 0, 3), 3);
                due.is(law.of(1, Math.min(place, 2)), place < 3 ? v : -1);
            }
            for (int v : new int[] {least[place] - 1, most[place] + 1, -128, 127, 'x', '<', '0'}) {
                if (v < least[place] || v > most[place]) {
                    long[] row = sixes(3, 0);
                    row[6 + place] = v;
                    Run law = withRow(row);
                    due.is(law.laws(0, 6, 1), 0);
                    due.is(law.count(0), 0);
                    due.is(law.laws(0, 0, 3), 1);
                    due.is(law.count(0), 1);
                    due.is(law.laws(0, 12, 1), 1);
                }
            }
        }
    }

    private static void sixesWhenFull() {
        due.by(4, "LAWS are FULL: those ahead came");
        Run law = withLaws(7);
        Due.row(law, 0, Due.BYTES, sixes(5, 0));
        due.is(law.laws(0, 0, 5), 3);
        due.is(law.count(0), 10);
        due.is(law.laws(0, 0, 5), 0);
        due.is(law.laws(0, -1, 5), 0);
        due.is(law.laws(0, 0, 0), BAD);
        due.is(law.of(6, 0), 16);
        due.is(law.of(7, 0), 10);
        due.is(law.of(9, 5), 25);
        Run exact = withLaws(5);
        Due.row(exact, 0, Due.BYTES, sixes(5, 0));
        due.is(exact.laws(0, 0, 5), 5);
        due.is(exact.count(0), 10);
    }

    private static void noRowOfBytes() {
        due.by(4, "-12 (no ROW of bytes; a SHELF that holds nothing is missing)");
        Run law = new Run();
        for (int sort = 1; sort <= 4; sort++) {
            law.row(1, sort, 0);
            due.is(law.laws(1, 0, 1), -12);
            law.row(1, sort, 60);
            due.is(law.laws(1, 0, 10), -12);
        }
        law.body(0);
        law.keep(1, 0);
        due.is(law.laws(1, 0, 1), -12);
        law.keep(1, -1);
        due.is(law.laws(1, 0, 1), 0);
        law.row(1, Due.BYTES, 0);
        due.is(law.laws(1, 0, 1), 0);
        due.is(law.count(0), 0);
    }

    private static void theTextIsThatOneComparison() {
        due.by(4, "the TEXT is that one comparison");
        for (int word = 0; word < 3; word++) {
            for (int sign = 0; sign < 3; sign++) {
                Run law = new Run();
                law.row(0, Due.BYTES, 60);
                for (int number = 0; number < 10; number++) {
                    int[] six = {number, 1, -1, word, sign, number};
                    for (int k = 0; k < 6; k++) {
                        law.put(0, 6 * number + k, six[k]);
                    }
                }
                law.feed('q');
                due.is(law.laws(0, 0, 10), 10);
                due.is(law.count(3), 1);
                for (int number = 0; number < 10; number++) {
                    int least = Math.min(number, 5), more = Math.max(0, 4 - number), like = number < 5 ? 1 : 0;
                    due.is(law.of(number, 5), 25 * (sign == 0 ? least : sign == 1 ? like : more));
                    for (int v = 0; v < 5; v++) {
                        int kase = 222 + (v - 2) * (word == 0 ? 100 : word == 1 ? 10 : 1);
                        boolean so = sign == 0 ? v < number : sign == 1 ? v == number : v > number;
                        due.is(law.speaks(number, kase), so ? 1 : 0);
                    }
                }
            }
        }
    }

    // what is mended

    private static Run twoLaws() {
        Run law = new Run();
        Due.law(law, "x=1", 50, 2);
        Due.law(law, "1", 60, 1);
        return law;
    }

    private static void mended(int number, int what, int v, int was, int asked) {
        Run law = twoLaws();
        due.is(law.mend(number, what, v), was);
        due.is(law.of(number, asked), v);
        due.is(law.count(4), 1);
    }

    private static void refused(int number, int what, int v, int was, int asked) {
        Run law = twoLaws();
        due.is(law.mend(number, what, v), VOID);
        due.is(law.count(4), 0);
        if (was != VOID) {
            due.is(law.of(number, asked), was);
        }
    }

    private static void datesMended() {
        due.by(5, "DATE (what 0) of a LAW becomes v: what it was. VOID: BAD.");
        mended(0, 0, 0, 50, 0);
        mended(0, 0, 99, 50, 0);
        mended(1, 0, 1, 60, 0);
        refused(0, 0, -1, 50, 0);
        refused(0, 0, 100, 50, 0);
        refused(1, 0, MIN, 60, 0);
        refused(1, 0, MAX, 60, 0);
        for (int number : new int[] {-1, 2, 9, 10, MIN, MAX}) {
            refused(number, 0, 5, VOID, 0);
        }
    }

    private static void sayingsMended() {
        due.by(5, "SAYS (1) of a LAW becomes v: what it was. VOID: BAD.");
        mended(0, 1, 0, 2, 1);
        mended(0, 1, 1, 2, 1);
        mended(1, 1, 2, 1, 1);
        refused(0, 1, -1, 2, 1);
        refused(0, 1, 3, 2, 1);
        refused(0, 1, -2, 2, 1);
        refused(1, 1, MAX, 1, 1);
        for (int number : new int[] {-1, 2, 10, MAX}) {
            refused(number, 1, 0, VOID, 1);
        }
    }

    private static void datesAndDaysNamed() {
        due.by(5, "d the LAW's DATE, t TODAY: as they were mended");
        Run law = new Run();
        Due.law(law, "x=d", 3, 1);
        Due.law(law, "y=t-90", 0, 1);
        for (int date : new int[] {4, 0, 99, 0, 1, 5, 2}) {
            law.mend(0, 0, date);
            due.is(law.of(0, 5), date < 5 ? 25 : 0);
            due.is(law.speaks(0, 100 * Math.min(date, 4)), date < 5 ? 1 : 0);
        }
        for (int today : new int[] {90, 0, 94, 95, 91, 99, 93}) {
            law.mend(0, 4, today);
            boolean some = today >= 90 && today <= 94;
            due.is(law.of(1, 5), some ? 25 : 0);
            due.is(law.speaks(1, some ? 10 * (today - 90) : 0), some ? 1 : 0);
            due.is(law.of(0, 5), 25);
        }
        law.undo();
        due.is(law.of(1, 5), 0);
        law.undo();
        due.is(law.speaks(1, 10), 1);
        law.redo();
        due.is(law.of(1, 5), 0);
        law.image();
        law.mend(0, 0, 4);
        due.is(law.speaks(0, 400), 1);
        law.back();
        due.is(law.speaks(0, 400), 0);
        due.is(law.speaks(0, 200), 1);
    }

    private static void strikesMended() {
        due.by(5, "STRIKES (2; -1 .. 9) of a LAW becomes v: what it was. VOID: BAD.");
        for (int v = 0; v <= 9; v++) {
            mended(0, 2, v, -1, 2);
        }
        refused(0, 2, -2, -1, 2);
        refused(0, 2, 10, -1, 2);
        refused(1, 2, MIN, -1, 2);
        refused(1, 2, MAX, -1, 2);
        for (int number : new int[] {-1, 2, 10, MIN}) {
            refused(number, 2, 0, VOID, 2);
        }
        Run law = twoLaws();
        law.mend(1, 2, 9);
        due.is(law.mend(1, 2, -1), 9);
        due.is(law.of(1, 2), -1);
    }

    private static void ruleAndTodayMended() {
        due.by(5, "RULE (3; number 0), TODAY (4; number 0) becomes v: what it was. VOID: BAD.");
        for (int rule = 1; rule <= 3; rule++) {
            mended(0, 3, rule, 0, 20);
        }
        for (int rule = 1; rule <= 3; rule++) {
            Run law = new Run();
            due.is(law.mend(0, 3, rule), 0);
            due.is(law.of(0, 20), rule);
            due.is(law.mend(0, 3, 0), rule);
            due.is(law.of(0, 20), 0);
        }
        for (int today : new int[] {0, 1, 98}) {
            Run law = new Run();
            due.is(law.mend(0, 4, today), 99);
            due.is(law.of(0, 21), today);
            due.is(law.mend(0, 4, 99), today);
        }
        for (int v : new int[] {-1, 4, 5, MIN, MAX}) {
            refused(0, 3, v, 0, 20);
        }
        for (int v : new int[] {-1, 100, MIN, MAX}) {
            refused(0, 4, v, 99, 21);
        }
        for (int number : new int[] {-1, 1, 2, MIN, MAX}) {
            refused(number, 3, 1, VOID, 20);
            refused(number, 4, 1, VOID, 21);
        }
    }

    private static void whatIsMended() {
        due.by(5, "what 0 .. 4. VOID: BAD.");
        for (int what : new int[] {-1, 5, 6, 10, 20, 21, MIN, MAX}) {
            refused(0, what, 0, VOID, 0);
            refused(0, what, 1, VOID, 0);
        }
        Run law = twoLaws();
        law.mend(0, 4, 10);
        due.is(law.of(0, 3), 0);
        due.is(law.mend(0, 0, 20), 50);
        due.is(law.mend(0, 0, 10), 20);
        due.is(law.of(0, 3), 1);
        due.is(law.mend(1, 1, 0), 1);
    }

    private static void whatIsMendedToTheSame() {
        due.by(5, "becomes v: what it was (where it is v already, nothing was changed)");
        int[][] same = {{0, 0, 50}, {0, 1, 2}, {0, 2, -1}, {1, 0, 60}, {1, 1, 1}, {1, 2, -1}, {0, 3, 0}, {0, 4, 99}};
        for (int[] each : same) {
            Run law = twoLaws();
            due.is(law.mend(each[0], each[1], each[2]), each[2]);
            due.is(law.count(4), 0);
            due.is(law.undo(), -5);
        }
    }

    // words

    private static void wordsMoved() {
        due.by(6, "A WORD (0 .. 2) means another one (to 0 .. 2, unlike) from a DATE on: 1; it means itself (to -1): 1."
            + " BAD.");
        for (int word = -1; word <= 3; word++) {
            for (int to = -2; to <= 3; to++) {
                Run law = new Run();
                boolean isWord = word >= 0 && word <= 2;
                boolean so = isWord && to >= -1 && to <= 2 && to != word;
                due.is(law.moved(word, to, 0), so ? 1 : BAD);
                due.is(law.of(word, 10), isWord ? so && to >= 0 ? to : word : VOID);
            }
        }
        for (int bad : new int[] {MIN, MAX}) {
            Run law = new Run();
            due.is(law.moved(bad, 0, 0), BAD);
            due.is(law.moved(bad, -1, 0), BAD);
            due.is(law.moved(bad, bad, 0), BAD);
            due.is(law.moved(0, bad, 0), BAD);
            due.is(law.of(0, 10), 0);
        }
    }

    private static void movedFromADateOn() {
        due.by(6, "from a DATE on (0 .. 99): if that DATE is not after TODAY");
        for (int date : new int[] {-1, 100, MIN, MAX}) {
            Run law = new Run();
            due.is(law.moved(0, 1, date), BAD);
            due.is(law.of(0, 10), 0);
            due.is(law.moved(0, -1, date), 1);
            due.is(law.moved(0, 2, 7), 1);
            due.is(law.moved(0, 1, date), BAD);
            due.is(law.of(0, 10), 2);
            due.is(law.moved(0, -1, date), 1);
            due.is(law.of(0, 10), 0);
        }
        for (int date : new int[] {0, 1, 50, 98, 99}) {
            Run law = new Run();
            Due.law(law, "x=1", 0, 1);
            due.is(law.moved(0, 2, date), 1);
            due.is(law.of(0, 10), 2);
            law.mend(0, 4, date);
            due.is(law.of(0, 10), 2);
            due.is(law.speaks(0, 1), 1);
            due.is(law.speaks(0, 100), 0);
            if (date > 0) {
                law.mend(0, 4, date - 1);
                due.is(law.of(0, 10), 0);
                due.is(law.speaks(0, 1), 0);
                due.is(law.speaks(0, 100), 1);
            }
        }
    }

    private static void movedOnceMore() {
        due.by(6, "WORDS: from a DATE on one may mean another one (MOVED; each once)");
        Run law = new Run();
        Due.law(law, "x=4&y=0&z=0", 0, 1);
        law.moved(0, 1, 20);
        due.is(law.moved(0, 2, 60), 1);
        due.is(law.of(0, 10), 2);
        law.mend(0, 4, 59);
        due.is(law.of(0, 10), 0);
        due.is(law.moved(0, -1, 0), 1);
        law.mend(0, 4, 99);
        due.is(law.of(0, 10), 0);
        due.is(law.of(0, 5), 1);
        due.is(law.count(4), 2);
    }

    private static void notMovedOn() {
        due.by(6, "it has, in each TEXT, the number of the other one (as that is in the CASE; not moved on)");
        Run law = new Run();
        Due.law(law, "x=1&y=2&z=3", 0, 1);
        Due.law(law, "x-y", 0, 1);
        law.moved(0, 1, 0);
        law.moved(1, 2, 0);
        law.moved(2, 0, 0);
        due.is(law.speaks(0, 312), 1);
        due.is(law.speaks(0, 123), 0);
        due.is(law.speaks(0, 231), 0);
        due.is(law.of(0, 5), 1);
        due.is(law.speaks(1, 122), 0);
        due.is(law.speaks(1, 112), 1);
        law.moved(2, -1, 0);
        due.is(law.of(0, 5), 0);
        law.moved(1, -1, 0);
        due.is(law.speaks(1, 400), 0);
        due.is(law.of(1, 5), 0);
    }

    // of

    private static void ofALaw() {
        due.by(7, "Of a LAW: 0 DATE, 1 SAYS, 2 STRIKES, 3 .., 4 .., 5 .. VOID: BAD.");
        Run law = twoLaws();
        law.mend(1, 2, 0);
        int[][] want = {{50, 2, -1, 1, 1, 25}, {60, 1, 0, 1, 1, 125}};
        for (int number = 0; number < 2; number++) {
            for (int what = 0; what <= 5; what++) {
                due.is(law.of(number, what), want[number][what]);
            }
        }
        for (int what : new int[] {-1, 6, 7, 8, 9, 11, 19, 22, 30, MIN, MAX}) {
            due.is(law.of(0, what), VOID);
        }
        for (int number : new int[] {-1, 2, 3, 9, 10, MIN, MAX}) {
            for (int what = 0; what <= 5; what++) {
                due.is(law.of(number, what), VOID);
            }
        }
        Run ten = withLaws(10);
        due.is(ten.of(9, 0), 19);
        due.is(ten.of(10, 0), VOID);
        due.is(ten.of(10, 5), VOID);
    }

    private static void ofAWordAndTheRest() {
        due.by(7, "of a WORD: 10 what it means (0 .. 2; TODAY); 20 RULE, 21 TODAY (number 0). VOID: BAD.");
        Run law = twoLaws();
        law.moved(2, 0, 30);
        law.mend(0, 3, 3);
        law.mend(0, 4, 30);
        due.is(law.of(0, 10), 0);
        due.is(law.of(1, 10), 1);
        due.is(law.of(2, 10), 0);
        due.is(law.of(0, 20), 3);
        due.is(law.of(0, 21), 30);
        for (int number : new int[] {-1, 3, MIN, MAX}) {
            due.is(law.of(number, 10), VOID);
        }
        for (int number : new int[] {-1, 1, 2, MIN, MAX}) {
            due.is(law.of(number, 20), VOID);
            due.is(law.of(number, 21), VOID);
        }
    }

    private static void thereOrNot() {
        due.by(7, "LAWS of later DATES are not there yet (but for their numbers). 3 whether it is there (1, 0)");
        Run law = withLaws(3);
        for (int today = 9; today <= 13; today++) {
            law.mend(0, 4, today);
            int there = Math.max(0, Math.min(3, today - 9));
            due.is(law.count(0), 3);
            due.is(law.count(1), there);
            for (int number = 0; number < 3; number++) {
                due.is(law.of(number, 3), number < there ? 1 : 0);
                due.is(law.of(number, 0), 10 + number);
                due.is(law.of(number, 5), 125);
            }
        }
        due.is(Due.law(law, "1", 14, 0), 3);
        due.is(law.of(3, 3), 0);
        law.mend(0, 4, 0);
        due.is(law.count(1), 0);
        law.mend(2, 0, 0);
        due.is(law.of(2, 3), 1);
    }

    private static void olderOnes() {
        due.by(7, "OLDER: of a lesser DATE; of like ones of a lesser number.");
        Run law = new Run();
        Due.law(law, "1", 50, 0);
        Due.law(law, "1", 50, 1);
        law.mend(0, 2, 1);
        law.mend(1, 2, 0);
        due.is(law.of(0, 4), 1);
        due.is(law.of(1, 4), 0);
        law.mend(1, 0, 49);
        due.is(law.of(0, 4), 0);
        due.is(law.of(1, 4), 1);
        law.mend(1, 0, 51);
        due.is(law.of(0, 4), 1);
        due.is(law.of(1, 4), 0);
        law.mend(0, 0, 51);
        due.is(law.of(0, 4), 1);
        due.is(law.of(1, 4), 0);
        law.mend(0, 0, 52);
        due.is(law.of(0, 4), 0);
        due.is(law.of(1, 4), 1);
    }

    private static void whoStands() {
        due.by(7, "one STANDS, if no older one that STANDS STRIKES it. (Who is not there strikes nobody.)");
        Run law = withLaws(10);
        for (int number = 0; number < 9; number++) {
            law.mend(number, 2, number + 1);
        }
        for (int number = 0; number < 10; number++) {
            due.is(law.of(number, 4), number % 2 == 0 ? 1 : 0);
        }
        due.is(law.count(2), 5);
        law.mend(0, 0, 99);
        law.mend(0, 4, 98);
        due.is(law.of(0, 4), 0);
        for (int number = 1; number < 10; number++) {
            due.is(law.of(number, 4), number % 2);
        }
        law.mend(5, 2, 5);
        due.is(law.of(5, 4), 1);
        due.is(law.of(6, 4), 1);
        Run missing = withLaws(1);
        missing.mend(0, 2, 1);
        due.is(missing.of(0, 4), 1);
        Due.law(missing, "1", 99, 1);
        due.is(missing.of(1, 4), 0);
        missing.mend(1, 0, 9);
        due.is(missing.of(1, 4), 1);
    }

    private static void speaksInHowMany() {
        due.by(7, "5 SPEAKS IN (how many CASES)");
        Run law = new Run();
        String[] texts = {"0", "1", "x=0&y=0&z=0", "x=4&y=4&z=4", "x+y+z", "12-x-y-z", "x", "y=4", "z<4", "x=y"};
        int[] many = {0, 125, 1, 1, 124, 124, 100, 25, 100, 25};
        for (int number = 0; number < 10; number++) {
            Due.law(law, texts[number], 99, 0);
            due.is(law.of(number, 5), many[number]);
        }
        law.mend(0, 4, 0);
        for (int number = 0; number < 10; number++) {
            due.is(law.of(number, 5), many[number]);
        }
    }
}
