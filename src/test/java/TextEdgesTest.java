/** Terms 1, TEXTS, by promises 3, 7 and 8: each sentence's edges, from an empty tape to one of 60 bytes. */
public final class TextEdgesTest {
    private static final Due due = new Due();
    private static final String DIGITS = "0123456789", NAMES = "xyzdtn", OPENS = "(!-";

    public static void main(String[] args) {
        atMostSixtyBytes();
        oneOrMoreLines();
        aLine();
        partsOfAnE();
        comparedOnce();
        oneToFourDigits();
        names();
        noBlanks();
        atMostSixOpen();
        sixOpenAndClosed();
        everyByteAtItsPlace();
        everyByteInsideBrackets();
        tooEarly();
        intsThatWrap();
        towardZero();
        byZero();
        oneOrZero();
        allIsWorkedOut();
        whoComesFirst();
        whichLineCounts();
        notZeroSpeaks();
        due.end();
    }

    /** The FAULT of a text; -1: a law came. */
    private static int fault(String text) {
        Run law = new Run();
        int answer = Due.law(law, text, 0, 1);
        return answer <= -100 ? -100 - answer : answer == 0 ? -1 : Integer.MIN_VALUE;
    }

    private static void comes(String... texts) {
        for (String text : texts) {
            due.is(fault(text), -1);
        }
    }

    private static void faulty(int place, String... texts) {
        for (String text : texts) {
            due.is(fault(text), place);
        }
    }

    /** In how many cases a law of this text, with date 3 and number 0, speaks. */
    private static int speaksIn(String text) {
        Run law = new Run();
        return Due.law(law, text, 3, 1) == 0 ? law.of(0, 5) : -1;
    }

    private static void always(String... texts) {
        for (String text : texts) {
            due.is(speaksIn(text), 125);
        }
    }

    private static void nowhere(String... texts) {
        for (String text : texts) {
            due.is(speaksIn(text), 0);
        }
    }

    private static void atMostSixtyBytes() {
        due.by(3, "TEXTS by THE TAPE (at most 60 bytes)");
        String of59 = "x" + "+x".repeat(29);
        comes("x", of59, of59.substring(0, 57) + "+12");
        due.is(speaksIn("0" + "+0".repeat(27) + "+100"), 125);
        due.is(speaksIn("0" + "+0".repeat(27) + "+000"), 0);
        due.is(speaksIn("!x" + "+1".repeat(29)), 125);
        due.is(speaksIn("0" + "|0".repeat(27) + "|!!x"), 100);
        due.is(speaksIn("0;".repeat(29) + "1"), 0);
        due.is(speaksIn("0?1;".repeat(14) + "x=1"), 25);
        faulty(59, of59 + ")", of59 + "q", of59 + "x", of59 + " ");
        faulty(58, of59.substring(0, 58) + ")1");
        Run law = new Run();
        Due.feed(law, "0" + "+0".repeat(28) + "+00");
        due.is(law.feed('1'), -3);
        due.is(law.law(0, 0), 0);
        due.is(law.of(0, 5), 0);
    }

    private static void oneOrMoreLines() {
        due.by(3, "LINES, one or more, parted by ;");
        faulty(0, "", ";", ";x");
        faulty(2, "x;", "x;;", "x;;y", "x;)");
        faulty(4, "x;y;");
        comes("x;y", "x;y;z", "1" + ";1".repeat(29));
        faulty(60, "1" + ";1".repeat(29) + ";");
        due.is(speaksIn("0?1" + ";0?1".repeat(13) + ";x=1"), 25);
    }

    private static void aLine() {
        due.by(3, "LINE: E, or E ? E");
        faulty(0, "?", "?x");
        faulty(2, "x?", "x??y", "x?;y", "x?|y");
        faulty(3, "x?y?", "x?y?z");
        faulty(2, "(x?y)", "(x;y)");
        comes("x?y", "x?y;z", "x;y?z", "x?y;z?x;y?z");
        faulty(7, "x?y;x?y?z");
    }

    private static void partsOfAnE() {
        due.by(3, "E = A { | A }. A = B { & B }. S = P { + P, - P }. P = O { * O, / O, % O }");
        for (String sign : new String[] {"|", "&", "+", "-", "*", "/", "%"}) {
            comes("x" + sign + "y", "x" + (sign + "y").repeat(29));
            faulty(2, "x" + sign);
            faulty(60, "x" + (sign + "y").repeat(29) + sign);
            if (!sign.equals("-")) {
                faulty(0, sign + "x", sign);
                faulty(2, "x" + sign + sign + "y");
            }
        }
        comes("-x", "x--y", "x+-y", "x*-y", "x|!y", "x&(y)");
        faulty(2, "x-+y", "x+*y", "x*/y", "x|&y", "x&|y", "x/+y");
        faulty(3, "x--", "x*-");
    }

    private static void comparedOnce() {
        due.by(3, "B = S, or S < S, S = S, S > S");
        for (String sign : new String[] {"<", "=", ">"}) {
            comes("x" + sign + "y", "(x" + sign + "y)" + sign + "z", "x" + sign + "(y" + sign + "z)",
                "x" + sign + "y&y" + sign + "z|z" + sign + "x", "x" + sign + "y?z" + sign + "x;x" + sign + "y");
            faulty(0, sign, sign + "x");
            faulty(2, "x" + sign, "x" + sign + sign + "y", "x" + sign + "<y", "x" + sign + "=y", "x" + sign + ">y");
            faulty(3, "x" + sign + "y<z", "x" + sign + "y=z", "x" + sign + "y>z");
            faulty(5, "x" + sign + "y+z=1", "(x" + sign + "y)(");
        }
    }

    private static void oneToFourDigits() {
        due.by(3, "O = a number (1 to 4 digits)");
        comes("0", "9", "00", "10", "999", "0000", "9999", "x+9999", "(9999)", "!9999", "-9999", "9999;9999");
        faulty(4, "00000", "12345", "99999", "1234567890");
        faulty(6, "x+12345", "x;12345", "x?12345");
        faulty(5, "(12345)", "-12345", "!12345");
        due.is(speaksIn("9999=9998+1"), 125);
        due.is(speaksIn("0000=0&0001=1&0010=10&0123=123"), 125);
    }

    private static void names() {
        due.by(3, "a NAME: x, y, z of the CASE, d the LAW's DATE, t TODAY, n the LAW's number");
        comes("x", "y", "z", "d", "t", "n");
        for (char letter = 'A'; letter <= 'z'; letter++) {
            if (NAMES.indexOf(letter) < 0) {
                faulty(0, "" + letter);
                faulty(2, "x+" + letter);
            }
        }
        faulty(1, "xx", "xy", "dt", "x1", "1x", "nd");
        Run law = new Run();
        for (int k = 0; k < 10; k++) {
            due.is(Due.law(law, "d=" + k * 11 + "&t=99&n=" + k, k * 11, 1), k);
            due.is(law.of(k, 5), 125);
        }
        law.mend(0, 4, 0);
        due.is(law.of(9, 5), 0);
        due.is(speaksIn("t=99&d=3&n=0"), 125);
        due.is(speaksIn("x=4&y=0&z=4"), 1);
        due.is(speaksIn("x<0|x>4|y<0|y>4|z<0|z>4"), 0);
    }

    private static void noBlanks() {
        due.by(3, "No blanks.");
        for (String blank : new String[] {" ", "\t", "\n", "\r", "\u0000", "\u00a0"}) {
            faulty(0, blank, blank + "x");
            faulty(1, "x" + blank, "x" + blank + "+y");
            faulty(2, "x+" + blank + "y", "12" + blank + "3");
        }
    }

    private static void atMostSixOpen() {
        due.by(3, "At most 6 of ( ! - ahead of an O are open at once.");
        String[] five = {"(((((", "!!!!!", "-----", "(!-(!", "-(-(-"};
        for (String open : five) {
            for (int k = 0; k < OPENS.length(); k++) {
                String six = open + OPENS.charAt(k);
                String closing = ")".repeat((int) six.chars().filter(c -> c == '(').count());
                comes(six + "z" + closing, "x-" + six + "z" + closing, "x?" + six + "z" + closing);
                for (int i = 0; i < OPENS.length(); i++) {
                    faulty(6, six + OPENS.charAt(i), six + OPENS.charAt(i) + "z");
                    faulty(8, "x-" + six + OPENS.charAt(i) + "z", "x;" + six + OPENS.charAt(i) + "z");
                }
            }
        }
    }

    private static void sixOpenAndClosed() {
        due.by(3, "At most 6 of ( ! - ahead of an O are open at once.");
        comes("(x)+(x)+(x)+(x)+(x)+(x)+(x)", "!x+!x+!x+!x+!x+!x+!x", "-x+-x+-x+-x+-x+-x+-x", "!!!!!!x+!!!!!!x",
            "((((((x))))))+((((((x))))))", "((((((x)+(x)))))+(x))", "(((((!x+!x)))))", "x-x-x-x-x-x-x-x",
            "(((((x-x-x-x)))))", "((((((x-y))))))");
        faulty(10, "((((((x)+((x))))))))");
        faulty(9, "(((((!x+!-x)))))");
        faulty(14, "!!!!!!x+!!!!!!!x");
        faulty(8, "((((((x-(y)))))))");
        due.is(speaksIn("((((((x))))))=2"), 25);
        due.is(speaksIn("!!!!!!x"), 100);
        due.is(speaksIn("------x=3"), 25);
    }

    /** Behind a prefix each of the 256 bytes: with some a text is whole, with some it goes on, with all others not. */
    private static void afterwards(String prefix, String whole, String goesOn) {
        int length = prefix.length();
        for (char letter = 0; letter < 256; letter++) {
            int place = goesOn.indexOf(letter) >= 0 ? length + 1 : length;
            due.is(fault(prefix + letter), whole.indexOf(letter) >= 0 ? -1 : place);
        }
    }

    private static void everyByteAtItsPlace() {
        due.by(3, "FAULT: the place (from 0) of the first byte with which no TEXT goes on");
        String o = DIGITS + NAMES;
        for (String prefix : new String[] {"", "x;", "x?", "x|", "x&", "x<", "x=", "x>", "x+", "x-", "x*", "x/", "x%",
            "!", "-", "!-!-!", "x<y&"}) {
            afterwards(prefix, o, OPENS);
        }
        afterwards("!!!!!!", o, "");
        afterwards("------", o, "");
        afterwards("x", "", "|&<=>+-*/%?;");
        afterwards("1234", "", "|&<=>+-*/%?;");
        afterwards("123", DIGITS, "|&<=>+-*/%?;");
        afterwards("!x", "", "|&<=>+-*/%?;");
        afterwards("(x<y)", "", "|&<=>+-*/%?;");
        afterwards("x<y|z", "", "|&<=>+-*/%?;");
        afterwards("x<y&z", "", "|&<=>+-*/%?;");
        afterwards("x?y;z", "", "|&<=>+-*/%?;");
        afterwards("x<y;z", "", "|&<=>+-*/%?;");
        afterwards("x<y", "", "|&+-*/%?;");
        afterwards("x=1*2", DIGITS, "|&+-*/%?;");
        afterwards("x?y", "", "|&<=>+-*/%;");
        afterwards("x<y?z", "", "|&<=>+-*/%;");
        afterwards("x?y>z", "", "|&+-*/%;");
    }

    private static void everyByteInsideBrackets() {
        due.by(3, "FAULT: the place (from 0) of the first byte with which no TEXT goes on");
        String o = DIGITS + NAMES;
        afterwards("(", "", o + OPENS);
        afterwards("((((((", "", o);
        afterwards("(!!!!!", "", o);
        afterwards("(x", ")", "|&<=>+-*/%");
        afterwards("(x<y", ")", "|&+-*/%");
        afterwards("(x<y&z", ")", "|&<=>+-*/%");
        afterwards("x<(y", ")", "|&<=>+-*/%");
        afterwards("x<(y>z", ")", "|&+-*/%");
        afterwards("x<(y>z)", "", "|&+-*/%?;");
        afterwards("x?(y", ")", "|&<=>+-*/%");
        afterwards("x?(y)", "", "|&<=>+-*/%;");
        afterwards("((x)", ")", "|&<=>+-*/%");
        afterwards("(1234", ")", "|&<=>+-*/%");
    }

    private static void tooEarly() {
        due.by(3, "FAULT: the length, if it ends too early");
        for (int length = 0; length <= 60; length++) {
            String even = "x+".repeat(length / 2);
            faulty(length, length % 2 == 0 ? even : even + "!");
        }
        faulty(7, "((((((x", "x&(y<z+");
        faulty(12, "((((((x)))))");
    }

    private static void intsThatWrap() {
        due.by(8, "Ints that wrap");
        String max = "(8192*8192*32-1)", least = "(8192*8192*32)";
        always(least + "<0", max + ">0", max + "+1=" + least, least + "-1=" + max);
        always("-" + least + "=" + least, max + "*2=-2", "8192*8192*64=0", least + "*-1=" + least);
        nowhere("8192*8192*64", least + "+" + least);
        always("9999*9999*9999=-(1027*1000*1000+349*1000+969)");
    }

    private static void towardZero() {
        due.by(8, "/ and % toward 0");
        always("7/2=3", "-7/2=-3", "7/-2=-3", "-7/-2=3", "7%2=1", "-7%2=-1", "7%-2=1", "-7%-2=-1");
        always("1/2=0", "-1/2=0", "0/5=0", "0%5=0", "-1%2=-1", "5/5=1", "5%5=0", "4/5=0", "4%5=4");
        always("8192*8192*32/-1=8192*8192*32", "8192*8192*32%-1=0");
    }

    private static void byZero() {
        due.by(8, "by 0 they give 0");
        always("7/0=0", "7%0=0", "-7/0=0", "-7%0=0", "0/0=0", "0%0=0", "7/(1-1)=0", "7/!1+1", "8192*8192*32/0=0",
            "8192*8192*32%0=0");
        nowhere("1/0", "1%0", "9999/0", "x/0", "x%0");
        due.is(speaksIn("4/x=0"), 25);
        due.is(speaksIn("4%x=0"), 100);
    }

    private static void oneOrZero() {
        due.by(8, "| & < = > ! give 1, 0");
        always("(5|0)=1", "(0|5)=1", "(5|7)=1", "(0|0)=0", "(5&7)=1", "(5&0)=0", "(0&5)=0", "(0&0)=0");
        always("(-1|0)=1", "(-1&-1)=1", "(2&1)=1", "(4&2)=1");
        always("(1<2)=1", "(2<2)=0", "(3<2)=0", "(2=2)=1", "(1=2)=0", "(3>2)=1", "(2>2)=0", "(1>2)=0");
        always("!0=1", "!1=0", "!9=0", "!-1=0", "!!9=1", "-1<0", "0>-1", "-1=-1");
    }

    private static void allIsWorkedOut() {
        due.by(8, "all is worked out");
        always("1|1/0", "1/0|1", "!(0&1/0)", "0?1/0;1", "1?1;1/0", "(1|7%0)=1", "!(1/0&1)");
    }

    private static void whoComesFirst() {
        due.by(8, "E = A { | A }. A = B { & B }. B = S, or S < S, S = S, S > S. S = P { + P, - P }. P = O { * O ..");
        always("8-4-2=2", "16/4/2=2", "17%7%2=1", "2+3*2=8", "2*3+2=8", "7-2*3=1", "2*6/4=3", "2/4*6=0", "9%4*2=2");
        always("1|1&0", "0&1|1", "!(1|1&0)=0", "-2+3=1", "-(2+3)=-5", "!1+1", "!(1+1)=0", "2<1+2", "1=1&2=2", "--2=2");
        nowhere("(1|1)&0", "0&(1|1)", "!1&1", "1-1-0", "2-(1+1)");
        due.is(speaksIn("0|1&0<0+1*(".repeat(4) + "x))))"), 100);
        due.is(speaksIn("1-(".repeat(6) + "x" + ")".repeat(6)), 100);
        due.is(speaksIn("1-(".repeat(5) + "x" + ")".repeat(5)), 100);
    }

    private static void whichLineCounts() {
        due.by(8, "The first LINE without a first E, or whose first E is not 0, counts; none: 0.");
        nowhere("0;1", "0?1", "0?1;0?1", "1?0;1", "0?1;0;1", "0?1;1?0;1");
        always("1;0", "0?0;1", "1?1;0", "0?0;1?1;0", "-1?1;0", "9999?1;0", "0?0;0?0;1;0");
        always("8192*8192*64?0;1");
        nowhere("-1?0;1", "8192*8192*32?0;1");
        due.is(speaksIn("x?0;1"), 25);
        due.is(speaksIn("x=0?y;x=1?z;x=2?0;x=3?1;0"), 20 + 20 + 25);
    }

    private static void notZeroSpeaks() {
        due.by(8, "Not 0: the LAW SPEAKS in that CASE.");
        always("1", "-1", "2", "9999", "8192*8192*32", "-9999", "1?-1");
        nowhere("0", "-0", "0000", "8192*8192*64", "1-1", "1?0", "0*9999");
        due.is(speaksIn("x-2"), 100);
        due.is(speaksIn("x-y"), 100);
        due.is(speaksIn("x*y*z"), 64);
        due.is(speaksIn("x+y+z-12"), 124);
    }
}
