/** Promises 1 to 7: a new object, the tape, laws by text and from rows, what is mended, words moved. */
public final class LawsTest {
    private static final Due due = new Due();
    private static final int VOID = OldestLaw.VOID;

    public static void main(String[] args) {
        aNewObject();
        theTape();
        textsAsTheySpeak();
        namesOfTheLaw();
        faults();
        lawsAsTheyCome();
        lawsFromARow();
        lawsFromARowThatEnds();
        whatIsMended();
        wordsMoved();
        wordsNotMoved();
        allThatWordsMayMean();
        whatALawIs();
        due.end();
    }

    private static void aNewObject() {
        Run law = new Run();
        for (int what = 0; what <= 6; what++) {
            due.is(1, "count(" + what + ")", law.count(what), 0);
        }
        due.is(1, "of(0, 20)", law.of(0, 20), 0);
        due.is(1, "of(0, 21)", law.of(0, 21), 99);
        for (int word = 0; word < 3; word++) {
            due.is(1, "of(" + word + ", 10)", law.of(word, 10), word);
        }
        due.is(1, "never()", law.never(), 0);
        due.is(1, "verdict(444, 1)", law.verdict(444, 1), -2);
        due.is(1, "back()", law.back(), -5);
        for (int shelf = 0; shelf < 6; shelf++) {
            due.is(1, "put(" + shelf + ", 0, 1)", law.put(shelf, 0, 1), -11);
        }
        due.is(1, "of(0, 0)", law.of(0, 0), VOID);
        Due.law(law, "1", 3, 1);
        due.is(1, "count(0) of a second object", new Run().count(0), 0);
    }

    private static void theTape() {
        Run law = new Run();
        due.is(2, "feed(-1)", law.feed(-1), -1);
        due.is(2, "feed(256)", law.feed(256), -1);
        due.is(2, "feed(0)", law.feed(0), 1);
        due.is(2, "feed(255)", law.feed(255), 2);
        for (int k = 3; k <= 60; k++) {
            due.is(2, "feed(120)", law.feed(120), k);
        }
        due.is(2, "feed(120) on a full tape", law.feed(120), -3);
        due.is(2, "feed(256) on a full tape", law.feed(256), -1);
        due.is(2, "count(3)", law.count(3), 60);
        due.is(2, "law(0, 0)", law.law(0, 0), -100);
        due.is(2, "count(3)", law.count(3), 0);
        due.is(2, "feed(120)", law.feed(120), 1);
    }

    private static int bit(boolean so) {
        return so ? 1 : 0;
    }

    private static void says(String text, Due.InCase told) {
        Run law = new Run();
        due.is(3, text + ": law(7, 1)", Due.law(law, text, 7, 1), 0);
        due.speech(8, law, 0, text, told);
    }

    private static void textsAsTheySpeak() {
        says("0", (x, y, z) -> false);
        says("1", (x, y, z) -> true);
        says("x", (x, y, z) -> x != 0);
        says("y", (x, y, z) -> y != 0);
        says("z", (x, y, z) -> z != 0);
        says("x<y", (x, y, z) -> x < y);
        says("x=y", (x, y, z) -> x == y);
        says("x>y", (x, y, z) -> x > y);
        says("x|y&z", (x, y, z) -> x != 0 || y != 0 && z != 0);
        says("x&y|z", (x, y, z) -> x != 0 && y != 0 || z != 0);
        says("(x|y)&z", (x, y, z) -> (x != 0 || y != 0) && z != 0);
        says("(x|y)=1", (x, y, z) -> x != 0 || y != 0);
        says("(x&y)=1", (x, y, z) -> x != 0 && y != 0);
        says("(x|y)=2", (x, y, z) -> false);
        says("(x>y)=1", (x, y, z) -> x > y);
        says("(x)=2", (x, y, z) -> x == 2);
        says("x-y-z=0", (x, y, z) -> x - y - z == 0);
        says("x-y+z=3", (x, y, z) -> x - y + z == 3);
        says("x+y*z=6", (x, y, z) -> x + y * z == 6);
        says("(x+y)*z=6", (x, y, z) -> (x + y) * z == 6);
        says("100/x/2=25", (x, y, z) -> x == 2);
        says("9-y*2%3-4<x", (x, y, z) -> 9 - y * 2 % 3 - 4 < x);
        says("x/y=0", (x, y, z) -> y == 0 || x / y == 0);
        says("x%y=0", (x, y, z) -> y == 0 || x % y == 0);
        says("-7/2=-3", (x, y, z) -> true);
        says("-7%2=-1", (x, y, z) -> true);
        says("(x-4)/2=-1", (x, y, z) -> (x - 4) / 2 == -1);
        says("(x-4)%3=-1", (x, y, z) -> (x - 4) % 3 == -1);
        says("!x=1", (x, y, z) -> x == 0);
        says("!(x=1)", (x, y, z) -> x != 1);
        says("!x+!y", (x, y, z) -> x == 0 || y == 0);
        says("!!x=1", (x, y, z) -> x != 0);
        says("-x<y-4", (x, y, z) -> -x < y - 4);
        says("x--y>6", (x, y, z) -> x + y > 6);
        says("x*-y=-4", (x, y, z) -> x * y == 4);
        says("0012=12", (x, y, z) -> true);
        says("9999*9999*9999<0", (x, y, z) -> 9999 * 9999 * 9999 < 0);
        says("z=2?x+y>4;0", (x, y, z) -> z == 2 && x + y > 4);
        says("x=1?y=2;x=2?z=3;y=4", (x, y, z) -> x == 1 ? y == 2 : x == 2 ? z == 3 : y == 4);
        says("x?1", (x, y, z) -> x != 0);
        says("x?0;y?1", (x, y, z) -> x == 0 && y != 0);
        says("x;y", (x, y, z) -> x != 0);
        says("x-1?y;z", (x, y, z) -> x != 1 ? y != 0 : z != 0);
        says("x?y;1?z;1", (x, y, z) -> x != 0 ? y != 0 : z != 0);
        says("!x" + "+1".repeat(29), (x, y, z) -> true);
        says("0?" + "1+".repeat(27) + "1;z", (x, y, z) -> z != 0);
        wraps();
    }

    private static void wraps() {
        int least = 8192 * 8192 * 32;
        says("8192*8192*32<0", (x, y, z) -> least < 0);
        says("8192*8192*32/-1=8192*8192*32", (x, y, z) -> true);
        says("8192*8192*32%-1=0", (x, y, z) -> true);
        says("-(8192*8192*32)<0", (x, y, z) -> true);
        says("8192*8192*32-1>0", (x, y, z) -> true);
        says("8192*8192*32-x>0", (x, y, z) -> least - x > 0);
    }

    private static Run lawsWithNames() {
        Run law = new Run();
        Due.law(law, "x=d", 3, 1);
        Due.law(law, "x=n", 9, 1);
        Due.law(law, "t-95=z", 9, 1);
        return law;
    }

    private static void namesOfTheLaw() {
        Run law = lawsWithNames();
        due.speech(8, law, 0, "x=d", (x, y, z) -> x == 3);
        due.speech(8, law, 1, "x=n", (x, y, z) -> x == 1);
        due.speech(8, law, 2, "t-95=z", (x, y, z) -> z == 4);
        law = lawsWithNames();
        law.of(0, 5);
        law.of(2, 5);
        law.mend(0, 0, 4);
        law.mend(0, 4, 97);
        due.speech(8, law, 0, "x=d", (x, y, z) -> x == 4);
        due.speech(8, law, 2, "t-95=z", (x, y, z) -> z == 2);
        law.mend(0, 4, 2);
        due.speech(8, law, 0, "x=d, not there", (x, y, z) -> x == 4);
    }

    private static void fault(String text, int place) {
        Run law = new Run();
        due.is(3, text, Due.law(law, text, 0, 0), place < 0 ? 0 : -100 - place);
        due.is(3, text + ": count(0)", law.count(0), place < 0 ? 1 : 0);
        due.is(3, text + ": count(3)", law.count(3), 0);
    }

    private static void faults() {
        fault("", 0);
        String[] atOnce = {"q", ";", "?", "|", "&", "<", "+", "*", ")", "=", " ", "X", "@", "[", "\u0000", "\u00ff"};
        for (String text : atOnce) {
            fault(text, 0);
        }
        String[] tooEarly = {"(", "!", "-", "x?", "x;", "x|", "x&", "x<", "x=", "x+", "x-", "x*", "x/", "x%", "(x",
            "(x+", "x?y;", "x?y;z?", "!(", "((x)", "x<-"};
        for (String text : tooEarly) {
            fault(text, text.length());
        }
        fault("12345", 4);
        fault("1234", -1);
        fault("x+00000", 6);
        fault("xx", 1);
        fault("1x", 1);
        fault("x1", 1);
        fault("x!", 1);
        fault("x(y)", 1);
        fault("(x)(y)", 3);
        fault("x<y<z", 3);
        fault("x=y=z", 3);
        fault("x<y=z", 3);
        fault("x<=y", 2);
        fault("(x<y)<z", -1);
        fault("x<(y<z)", -1);
        fault("x<y&y<z|z<x", -1);
        fault("x&&y", 2);
        fault("x||y", 2);
        fault("x;;y", 2);
        fault("x?y?z", 3);
        fault("(x?y)", 2);
        fault("(x;y)", 2);
        fault("x)", 1);
        fault("()", 1);
        fault("x ", 1);
        fault("x?)", 2);
        fault("dtn", 1);
        openAtOnce();
    }

    private static void openAtOnce() {
        fault("((((((z))))))", -1);
        fault("(((((((z)))))))", 6);
        fault("x?((((((z))))))", -1);
        fault("x?(((((((z)))))))", 8);
        fault("x;((((((z))))))", -1);
        fault("x;(((((((z)))))))", 8);
        fault("x?y;z?(((((((z", 12);
        fault("!!!!!!z", -1);
        fault("!!!!!!!z", 6);
        fault("------z", -1);
        fault("-------z", 6);
        fault("x-------z", -1);
        fault("x--------z", 8);
        fault("x-(-(-(-z)))", -1);
        fault("x-(-(-(--z)))", 8);
        fault("(!-(!-z))", -1);
        fault("(!-(!-!z))", 6);
        fault("(!-(!-(z)))", 6);
        fault("!x+!x+!x+!x+!x+!x+!x+!x", -1);
        fault("(x)+(x)+(x)+(x)+(x)+(x)+(x)+(x)", -1);
        fault("((((((x)+(y))))))", -1);
        fault("((((((x)+((y))))))", 10);
        fault("(((((x)+(y)))))", -1);
        fault("(((((!x)+!y))))", -1);
        fault("(((((!x)+!!y))))", -1);
        fault("(((((!x)+!!!y))))", 11);
        String sixty = "x" + "+x".repeat(29);
        fault(sixty + "+", 60);
        fault(sixty + ";", 60);
        fault(sixty + "?", 60);
        fault(sixty.substring(0, 57) + "+12", -1);
        fault("((((((" + "x+".repeat(24) + ")))))", 54);
    }

    private static void lawsAsTheyCome() {
        Run law = new Run();
        Due.feed(law, "x=");
        int[][] bad = {{-1, 0}, {100, 0}, {0, -1}, {0, 3}, {Integer.MIN_VALUE, 1}, {1, Integer.MAX_VALUE}};
        for (int[] each : bad) {
            due.is(3, "law(" + each[0] + ", " + each[1] + ")", law.law(each[0], each[1]), -1);
        }
        due.is(3, "count(3)", law.count(3), 2);
        due.is(3, "law(0, 0)", law.law(0, 0), -102);
        for (int k = 0; k < 10; k++) {
            due.is(3, "law no. " + k, Due.law(law, "x=" + k, 99 - 11 * k, k % 3), k);
        }
        for (int k = 0; k < 10; k++) {
            int number = k;
            due.is(3, "of(" + k + ", 0)", law.of(k, 0), 99 - 11 * k);
            due.is(3, "of(" + k + ", 1)", law.of(k, 1), k % 3);
            due.is(3, "of(" + k + ", 2)", law.of(k, 2), -1);
            due.is(3, "speaks(" + k + ", 301)", law.speaks(k, 301), bit(number == 3));
        }
        Due.feed(law, "q");
        due.is(3, "law(100, 0) of eleven", law.law(100, 0), -1);
        due.is(3, "law(0, 0) of eleven", law.law(0, 0), -3);
        due.is(3, "count(3)", law.count(3), 1);
        due.is(3, "count(0)", law.count(0), 10);
    }

    private static void lawsFromARow() {
        Run law = new Run();
        due.is(4, "laws(0, 0, 1), bare", law.laws(0, 0, 1), 0);
        due.is(4, "laws(0, -1, 1), bare", law.laws(0, -1, 1), 0);
        Due.row(law, 0, Due.BYTES, 7, 7, 30, 2, -1, 0, 1, 3, 0, 0, 9, 2, 2, 0, 99, 1, 4, 1, 0, 9);
        due.is(4, "laws(6, 0, 1)", law.laws(6, 0, 1), -1);
        due.is(4, "laws(-1, 0, 1)", law.laws(-1, 0, 1), -1);
        due.is(4, "laws(0, 0, 0)", law.laws(0, 0, 0), -1);
        due.is(4, "laws(0, 0, 11)", law.laws(0, 0, 11), -1);
        due.is(4, "laws(0, -1, 1)", law.laws(0, -1, 1), 0);
        due.is(4, "laws(0, MIN, 10)", law.laws(0, Integer.MIN_VALUE, 10), 0);
        due.is(4, "laws(0, MAX, 10)", law.laws(0, Integer.MAX_VALUE, 10), 0);
        due.is(4, "count(0)", law.count(0), 0);
        Due.feed(law, "x=1");
        due.is(4, "laws(0, 2, 2)", law.laws(0, 2, 2), 2);
        due.is(4, "count(3): the tape is as it was", law.count(3), 3);
        due.speech(4, law, 0, "x=3", (x, y, z) -> x == 3);
        due.speech(4, law, 1, "z>0", (x, y, z) -> z > 0);
        int[][] want = {{30, 2, -1}, {0, 0, 9}};
        for (int k = 0; k < 2; k++) {
            for (int what = 0; what < 3; what++) {
                due.is(4, "of(" + k + ", " + what + ")", law.of(k, what), want[k][what]);
            }
        }
        due.is(4, "laws(0, 14, 1)", law.laws(0, 14, 1), 1);
        due.speech(4, law, 2, "y<9", (x, y, z) -> true);
        due.is(4, "of(2, 2)", law.of(2, 2), 4);
        due.is(4, "undo()", law.undo(), -5);
    }

    private static void lawsFromARowThatEnds() {
        Run law = new Run();
        int[] sorts = {Due.SHORTS, Due.INTS, Due.LONGS, Due.BOOLEANS};
        for (int sort : sorts) {
            law.row(1, sort, 60);
            due.is(4, "laws(1, 0, 1) of sort " + sort, law.laws(1, 0, 1), -12);
            due.is(4, "laws(1, -1, 1) of sort " + sort, law.laws(1, -1, 1), -12);
        }
        law.body(0);
        law.keep(1, 0);
        due.is(4, "laws(1, 0, 1) of a body", law.laws(1, 0, 1), -12);
        Due.row(law, 0, Due.BYTES, 1, 1, 1, 1, 1, 1, 2, 2, 2, 2, 2);
        due.is(4, "laws(0, 0, 10): ends within a six", law.laws(0, 0, 10), 1);
        due.is(4, "laws(0, 6, 1)", law.laws(0, 6, 1), 0);
        due.is(4, "laws(0, 11, 1)", law.laws(0, 11, 1), 0);
        due.is(4, "laws(0, 5, 1)", law.laws(0, 5, 1), 1);
        int[][] wrong = {{0, -1}, {0, 100}, {1, -1}, {1, 3}, {2, -2}, {2, 10}, {3, -1}, {3, 3}, {4, -1}, {4, 3},
            {5, -1}, {5, 10}};
        for (int[] each : wrong) {
            Due.row(law, 0, Due.BYTES, 99, 0, 9, 0, 0, 0, 99, 0, 9, 0, 0, 0, 1, 1, 1, 1, 1, 1);
            law.put(0, 6 + each[0], each[1]);
            Run fresh = new Run();
            Due.row(fresh, 0, Due.BYTES, 99, 0, 9, 0, 0, 0, 99, 0, 9, 0, 0, 0, 1, 1, 1, 1, 1, 1);
            fresh.put(0, 6 + each[0], each[1]);
            due.is(4, "laws(0, 0, 3), " + each[0] + " is " + each[1], fresh.laws(0, 0, 3), 1);
            due.is(4, "count(0)", fresh.count(0), 1);
        }
        Due.row(law, 0, Due.BYTES, new long[60]);
        due.is(4, "laws(0, 0, 10): two are there", law.laws(0, 0, 10), 8);
        due.is(4, "laws(0, 0, 10): ten are there", law.laws(0, 0, 10), 0);
        due.is(4, "count(0)", law.count(0), 10);
        Run ten = new Run();
        Due.row(ten, 5, Due.BYTES, new long[60]);
        due.is(4, "laws(5, 0, 10)", ten.laws(5, 0, 10), 10);
    }

    private static void whatIsMended() {
        Run law = new Run();
        due.is(5, "mend(0, 0, 5) without laws", law.mend(0, 0, 5), VOID);
        due.is(5, "mend(0, 3, 3) without laws", law.mend(0, 3, 3), 0);
        due.is(5, "mend(0, 4, 0) without laws", law.mend(0, 4, 0), 99);
        due.is(5, "of(0, 20)", law.of(0, 20), 3);
        due.is(5, "of(0, 21)", law.of(0, 21), 0);
        Due.law(law, "x", 50, 2);
        Due.law(law, "y", 60, 1);
        int[][] good = {{0, 0, 0, 50}, {0, 0, 99, 0}, {1, 0, 7, 60}, {0, 1, 0, 2}, {0, 1, 2, 0}, {1, 1, 2, 1},
            {0, 2, 9, -1}, {0, 2, 0, 9}, {0, 2, -1, 0}, {1, 2, 1, -1}, {0, 3, 0, 3}, {0, 4, 99, 0}, {0, 4, 99, 99}};
        for (int[] each : good) {
            due.is(5, "mend(" + each[0] + ", " + each[1] + ", " + each[2] + ")",
                law.mend(each[0], each[1], each[2]), each[3]);
        }
        int[][] bad = {{0, 0, -1}, {0, 0, 100}, {2, 0, 1}, {-1, 0, 1}, {0, 1, -1}, {0, 1, 3}, {2, 1, 1}, {0, 2, -2},
            {0, 2, 10}, {2, 2, 1}, {1, 3, 0}, {-1, 3, 0}, {0, 3, -1}, {0, 3, 4}, {1, 4, 5}, {0, 4, -1}, {0, 4, 100},
            {0, 5, 0}, {0, -1, 0}};
        int changes = law.count(4);
        for (int[] each : bad) {
            due.is(5, "mend(" + each[0] + ", " + each[1] + ", " + each[2] + ")",
                law.mend(each[0], each[1], each[2]), VOID);
        }
        due.is(5, "count(4)", law.count(4), changes);
        int[][] now = {{0, 0, 99}, {0, 1, 2}, {0, 2, -1}, {1, 0, 7}, {1, 1, 2}, {1, 2, 1}, {0, 20, 0}, {0, 21, 99}};
        for (int[] each : now) {
            due.is(5, "of(" + each[0] + ", " + each[1] + ")", law.of(each[0], each[1]), each[2]);
        }
    }

    private static Run lawOfMovedWords() {
        Run law = new Run();
        Due.law(law, "x=1&y=2&z=3", 10, 1);
        due.is(6, "moved(0, 1, 40)", law.moved(0, 1, 40), 1);
        due.is(6, "moved(1, 2, 41)", law.moved(1, 2, 41), 1);
        return law;
    }

    private static void wordsMoved() {
        Run law = lawOfMovedWords();
        due.speech(6, law, 0, "x as y, y as z", (x, y, z) -> y == 1 && z == 2 && z == 3);
        law.mend(0, 4, 40);
        due.is(6, "of(0, 10)", law.of(0, 10), 1);
        due.is(6, "of(1, 10)", law.of(1, 10), 1);
        due.speech(6, law, 0, "x as y", (x, y, z) -> y == 1 && y == 2 && z == 3);
        law.mend(0, 4, 39);
        due.speech(6, law, 0, "none yet", (x, y, z) -> x == 1 && y == 2 && z == 3);
        law = lawOfMovedWords();
        law.mend(0, 4, 39);
        law.of(0, 5);
        law.mend(0, 4, 99);
        due.is(6, "moved(1, 0, 99)", law.moved(1, 0, 99), 1);
        due.speech(6, law, 0, "x as y, y as x", (x, y, z) -> y == 1 && x == 2 && z == 3);
        due.is(6, "count(4): no change to undo", law.count(4), 2);
    }

    private static void wordsNotMoved() {
        Run law = lawOfMovedWords();
        int[][] bad = {{-1, 0, 0}, {3, 0, 0}, {0, 0, 0}, {1, 1, 0}, {2, 2, 0}, {0, 3, 0}, {0, -2, 0}, {0, 1, -1},
            {0, 1, 100}, {3, -1, 0}, {-1, -1, 0}};
        for (int[] each : bad) {
            due.is(6, "moved(" + each[0] + ", " + each[1] + ", " + each[2] + ")",
                law.moved(each[0], each[1], each[2]), -1);
        }
        due.is(6, "of(0, 10)", law.of(0, 10), 1);
        due.is(6, "moved(0, -1, 500)", law.moved(0, -1, 500), 1);
        due.is(6, "moved(1, -1, -1)", law.moved(1, -1, -1), 1);
        due.speech(6, law, 0, "none any more", (x, y, z) -> x == 1 && y == 2 && z == 3);
        due.is(6, "moved(2, 0, 0)", law.moved(2, 0, 0), 1);
        due.speech(6, law, 0, "z as x", (x, y, z) -> x == 1 && y == 2 && x == 3);
        due.is(6, "moved(2, 1, 0)", law.moved(2, 1, 0), 1);
        due.speech(6, law, 0, "z as y", (x, y, z) -> x == 1 && y == 2 && y == 3);
        due.is(6, "count(4): no change to undo", law.count(4), 0);
    }

    /** From each way in which words may be moved to each other one, without a call between. */
    private static void allThatWordsMayMean() {
        for (int to = 0; to < 27; to++) {
            Run law = new Run();
            Due.law(law, "x*9+y*3+z=" + to, 10, 1);
            for (int from = 0; from < 27; from++) {
                means(law, from);
                due.is(6, "speaks(0, 12) of " + to + " by " + from, law.speaks(0, 12), bit(from == to));
                means(law, to);
                due.is(6, "speaks(0, 12) of " + to, law.speaks(0, 12), 1);
            }
        }
    }

    private static void means(Run law, int key) {
        int[] to = {key / 9, key / 3 % 3, key % 3};
        for (int word = 0; word < 3; word++) {
            law.moved(word, to[word] == word ? -1 : to[word], 0);
        }
    }

    private static void whatALawIs() {
        Run law = new Run();
        Due.law(law, "x=1", 20, 2);
        Due.law(law, "y>1", 30, 0);
        Due.law(law, "z", 20, 1);
        law.mend(0, 2, 1);
        law.mend(1, 2, 2);
        int[][] want = {{20, 2, 1, 1, 1, 25}, {30, 0, 2, 1, 0, 75}, {20, 1, -1, 1, 1, 100}};
        for (int k = 0; k < 3; k++) {
            for (int what = 0; what < 6; what++) {
                due.is(7, "of(" + k + ", " + what + ")", law.of(k, what), want[k][what]);
            }
        }
        law.mend(0, 4, 29);
        due.is(7, "of(1, 3) before its date", law.of(1, 3), 0);
        due.is(7, "of(1, 4) before its date", law.of(1, 4), 0);
        due.is(7, "of(1, 5) before its date", law.of(1, 5), 75);
        law.mend(0, 4, 30);
        due.is(7, "of(1, 3) on its date", law.of(1, 3), 1);
        int[][] bad = {{3, 0}, {-1, 0}, {3, 3}, {3, 5}, {0, -1}, {0, 6}, {0, 9}, {0, 11}, {-1, 10}, {3, 10}, {1, 20},
            {-1, 20}, {1, 21}, {0, 22}, {0, 19}, {Integer.MIN_VALUE, Integer.MAX_VALUE}};
        for (int[] each : bad) {
            due.is(7, "of(" + each[0] + ", " + each[1] + ")", law.of(each[0], each[1]), VOID);
        }
        standing();
    }

    private static void standing() {
        Run law = new Run();
        for (int k = 0; k < 5; k++) {
            Due.law(law, "1", 10 + 10 * k, 1);
        }
        law.mend(0, 2, 1);
        law.mend(1, 2, 2);
        law.mend(3, 2, 3);
        law.mend(4, 2, 0);
        int[] stand = {1, 0, 1, 1, 1};
        for (int k = 0; k < 5; k++) {
            due.is(7, "of(" + k + ", 4)", law.of(k, 4), stand[k]);
        }
        law.mend(0, 0, 20);
        due.is(7, "of(1, 4), of one date", law.of(1, 4), 0);
        law.mend(0, 0, 21);
        due.is(7, "of(1, 4), older than who strikes it", law.of(1, 4), 1);
        due.is(7, "of(2, 4), struck by one that stands", law.of(2, 4), 0);
        law.mend(1, 0, 30);
        law.mend(0, 0, 99);
        law.mend(0, 4, 98);
        due.is(7, "of(1, 4), who strikes it is not there", law.of(1, 4), 1);
        due.is(7, "of(2, 4)", law.of(2, 4), 0);
    }
}
