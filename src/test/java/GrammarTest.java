import java.util.HashMap;
import java.util.HashSet;
import java.util.Map;
import java.util.Random;
import java.util.Set;

/**
 * FAULT by the grammar alone: its rules are told here as the document tells them, and a tape is followed by all stacks
 * of what may come yet. The place of the first byte that leaves no stack is the FAULT; nothing here reads a text.
 */
public final class GrammarTest {
    private static final int MOST_OPEN = 6, MOST_BYTES = 60;
    private static final String SIGNS = "xyzdtn0123456789|&<=>+-*/%!()?;";
    // one sign of each kind, and one that is none
    private static final String KINDS = "x1|&<+*!-();?q";

    private static final Due due = new Due();
    private static final Map<Character, String[]> RULES = new HashMap<>();
    private static final Map<String, Set<String>> OPENED = new HashMap<>();
    private static final Random random = new Random(12);
    private static Run law = new Run();
    private static int laws = 0;

    static {
        rule('T', "LM");
        rule('M', "", ";LM");
        rule('L', "EQ");
        rule('Q', "", "?E");
        rule('E', "AF");
        rule('F', "", "|AF");
        rule('A', "BG");
        rule('G', "", "&BG");
        rule('B', "SH");
        rule('H', "", "<S", "=S", ">S");
        rule('S', "PI");
        rule('I', "", "+PI", "-PI");
        rule('P', "OJ");
        rule('J', "", "*OJ", "/OJ", "%OJ");
        // ^ stands where what was open ahead of an O is open no more; # is a digit
        rule('O', "#U", "x", "y", "z", "d", "t", "n", "!O^", "-O^", "(E)^");
        rule('U', "", "#V");
        rule('V', "", "#W");
        rule('W', "", "#");
    }

    private static void rule(char name, String... ways) {
        RULES.put(name, ways);
    }

    public static void main(String[] args) {
        due.by(3, "FAULT: the place (from 0) of the first byte with which no TEXT goes on; the length, if it ends too"
            + " early.");
        allOfFewBytes();
        numbersAndWhatIsOpen();
        longOnes();
        due.end();
    }

    // the grammar

    private static long openIn(String stack) {
        return stack.chars().filter(c -> c == '^').count();
    }

    /** All stacks with a byte on top (or bare ones) that a stack comes to. */
    private static Set<String> opened(String stack) {
        Set<String> known = OPENED.get(stack);
        if (known != null) {
            return known;
        }
        Set<String> all = new HashSet<>();
        String[] ways = stack.isEmpty() ? null : RULES.get(stack.charAt(0));
        if (!stack.isEmpty() && stack.charAt(0) == '^') {
            all.addAll(opened(stack.substring(1)));
        } else if (ways == null) {
            all.add(stack);
        } else {
            for (String way : ways) {
                if (!way.endsWith("^") || openIn(stack) < MOST_OPEN) {
                    all.addAll(opened(way + stack.substring(1)));
                }
            }
        }
        OPENED.put(stack, all);
        return all;
    }

    private static int fault(String text) {
        Set<String> stacks = opened("T");
        for (int i = 0; i < text.length(); i++) {
            char c = text.charAt(i);
            Set<String> next = new HashSet<>();
            for (String stack : stacks) {
                boolean digit = c >= '0' && c <= '9' && stack.startsWith("#");
                if (digit || !stack.isEmpty() && stack.charAt(0) == c && c != '#') {
                    next.addAll(opened(stack.substring(1)));
                }
            }
            if (next.isEmpty()) {
                return i;
            }
            stacks = next;
        }
        return stacks.contains("") ? -1 : text.length();
    }

    // the program

    private static void is(String text) {
        if (law.callsLeft() <= text.length() || laws == 10) {
            law = new Run();
            laws = 0;
        }
        int fault = fault(text);
        Due.feed(law, text);
        due.is(law.law(0, 0), fault < 0 ? laws : -100 - fault);
        laws += fault < 0 ? 1 : 0;
    }

    private static void allOfFewBytes() {
        for (int length = 0; length <= 4; length++) {
            int many = (int) Math.round(Math.pow(KINDS.length(), length));
            for (int k = 0; k < many; k++) {
                StringBuilder text = new StringBuilder();
                for (int i = 0, rest = k; i < length; i++, rest /= KINDS.length()) {
                    text.append(KINDS.charAt(rest % KINDS.length()));
                }
                is(text.toString());
            }
        }
    }

    private static void numbersAndWhatIsOpen() {
        String[] ends = {"x", "1", "12345", ")", "x)", "(x)", "!x", "", "x))", "x)!x", "x))-(x", "+", "x<x<x"};
        for (int ways = 0; ways < 1 << 8; ways++) {
            StringBuilder opens = new StringBuilder();
            for (int k = 0; k < ways % 9; k++) {
                opens.append("(!-".charAt((ways >> k) % 3));
            }
            for (String end : ends) {
                is(opens + end);
                is("x+" + opens + end + ";" + opens + end);
            }
        }
    }

    private static String grown(char name, int depth) {
        StringBuilder text = new StringBuilder();
        String[] ways = RULES.get(name);
        String way = ways[depth > 0 ? random.nextInt(ways.length) : name == 'O' ? random.nextInt(7) : 0];
        for (char c : way.toCharArray()) {
            if (c == '#') {
                text.append((char) ('0' + random.nextInt(10)));
            } else if (c != '^') {
                text.append(RULES.containsKey(c) ? grown(c, depth - 1) : Character.toString(c));
            }
        }
        return text.toString();
    }

    private static void longOnes() {
        for (int k = 0; k < 6000; k++) {
            StringBuilder text = new StringBuilder(grown('T', 6 + random.nextInt(20)));
            for (int changes = random.nextInt(3); changes > 0; changes--) {
                int at = random.nextInt(text.length() + 1);
                String sign = Character.toString(SIGNS.charAt(random.nextInt(SIGNS.length())));
                text.replace(at, Math.min(text.length(), at + random.nextInt(2)), sign.repeat(random.nextInt(4)));
            }
            is(text.substring(0, Math.min(MOST_BYTES, text.length())));
        }
    }
}
