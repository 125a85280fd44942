import java.util.ArrayDeque;
import java.util.ArrayList;
import java.util.Arrays;
import java.util.Deque;
import java.util.HashMap;
import java.util.HashSet;
import java.util.List;
import java.util.Map;
import java.util.Set;
import java.util.TreeSet;

/**
 * The document once more, made another way: every answer is worked out anew from whole copies of what is told,
 * texts are split by their signs and not read ahead, and nothing is kept that could be asked again.
 */
final class Model {
    static final int BAD = -1, NOT = -2, FULL = -3, STATE = -5, VOID = -2000000000;

    /** One law; of the tenth, which is a wording, all that is told is that it is there and stands. */
    record Told(int number, String text, int date, int says, int strikes) {
        Told with(int what, int v) {
            return new Told(number, text, what == 0 ? v : date, what == 1 ? v : says, what == 2 ? v : strikes);
        }
    }

    private static final Map<String, Set<Integer>> SPEECHES = new HashMap<>();
    private static final Set<Integer> CASES = allCases();

    /** What a verdict hangs on. */
    static final class World {
        List<Told> laws = new ArrayList<>();
        int[] to = {-1, -1, -1};
        int[] from = {0, 0, 0};
        int rule = 0;
        int today = 99;

        World copy() {
            World w = new World();
            w.laws = new ArrayList<>(laws);
            w.to = to.clone();
            w.from = from.clone();
            w.rule = rule;
            w.today = today;
            return w;
        }

        boolean there(Told law) {
            return law.number == 10 || law.date <= today;
        }

        boolean older(Told a, Told b) {
            return a.date != b.date ? a.date < b.date : a.number < b.number;
        }

        boolean stands(Told law) {
            if (!there(law)) {
                return false;
            }
            for (Told other : laws) {
                if (other.strikes == law.number && older(other, law) && stands(other)) {
                    return false;
                }
            }
            return true;
        }

        boolean speaks(Told law, int kase) {
            return speech(law).contains(kase);
        }

        int width(Told law) {
            return speech(law).size();
        }

        int meaning(int word) {
            return to[word] >= 0 && from[word] <= today ? to[word] : word;
        }

        /** The cases in which a law speaks; a text of like names speaks in like cases. */
        Set<Integer> speech(Told law) {
            int[] means = {meaning(0), meaning(1), meaning(2)};
            String key = law.text + (law.text.indexOf('d') < 0 ? "" : " d" + law.date)
                + (law.text.indexOf('t') < 0 ? "" : " t" + today)
                + (law.text.indexOf('n') < 0 ? "" : " n" + law.number) + Arrays.toString(means);
            return SPEECHES.computeIfAbsent(key, k -> {
                Set<Integer> speech = new HashSet<>();
                for (int kase : cases()) {
                    int[] own = {kase / 100, kase / 10 % 10, kase % 10};
                    int[] names = {own[means[0]], own[means[1]], own[means[2]], law.date, today, law.number};
                    if (valueOfLines(law.text, names) != 0) {
                        speech.add(kase);
                    }
                }
                return speech;
            });
        }

        boolean ahead(Told a, Told b, int byRule) {
            int[] first = {1, 0, 2};
            switch (byRule) {
                case 0: return older(a, b);
                case 1: return older(b, a);
                case 2: return width(a) != width(b) ? width(a) < width(b) : older(a, b);
                default: return a.says != b.says ? first[a.says] < first[b.says] : older(a, b);
            }
        }

        Told holder(int kase, int byRule) {
            Told best = null;
            for (Told law : laws) {
                if (speaks(law, kase) && stands(law) && (best == null || ahead(law, best, byRule))) {
                    best = law;
                }
            }
            return best;
        }

        int verdict(int kase, int byRule) {
            Told holder = holder(kase, byRule);
            return holder == null ? NOT : holder.says;
        }

        int verdict(int kase) {
            return verdict(kase, rule);
        }
    }

    static Set<Integer> cases() {
        return CASES;
    }

    private static Set<Integer> allCases() {
        Set<Integer> all = new TreeSet<>();
        for (int x = 0; x <= 4; x++) {
            for (int y = 0; y <= 4; y++) {
                for (int z = 0; z <= 4; z++) {
                    all.add(100 * x + 10 * y + z);
                }
            }
        }
        return all;
    }

    static boolean isCase(int kase) {
        return CASES.contains(kase);
    }

    // texts

    static int fault(String text) {
        Deque<Character> open = new ArrayDeque<>();
        Deque<Boolean> compared = new ArrayDeque<>();
        compared.push(false);
        boolean wants = true, asked = false;
        int digits = 0;
        for (int i = 0; i < text.length(); i++) {
            char c = text.charAt(i);
            if (!wants && digits > 0 && digits < 4 && Character.isDigit(c) && c < 128) {
                digits++;
                continue;
            }
            digits = 0;
            if (wants) {
                if ("(!-".indexOf(c) >= 0 && open.size() < 6) {
                    open.push(c);
                    if (c == '(') {
                        compared.push(false);
                    }
                    continue;
                }
                if (!("xyzdtn0123456789".indexOf(c) >= 0)) {
                    return i;
                }
                digits = Character.isDigit(c) ? 1 : 0;
                wants = false;
                close(open);
                continue;
            }
            if (c == ')' && !open.isEmpty()) {
                open.pop();
                compared.pop();
                close(open);
                continue;
            }
            boolean top = open.isEmpty();
            if ("+-*/%".indexOf(c) >= 0) {
                wants = true;
            } else if ("<=>".indexOf(c) >= 0 && !compared.peek()) {
                compared.pop();
                compared.push(true);
                wants = true;
            } else if ("&|".indexOf(c) >= 0 || c == '?' && top && !asked || c == ';' && top) {
                compared.pop();
                compared.push(false);
                wants = true;
                asked = c == '?' || c != ';' && asked;
            } else {
                return i;
            }
        }
        return wants || !open.isEmpty() ? text.length() : -1;
    }

    private static void close(Deque<Character> open) {
        while (!open.isEmpty() && open.peek() != '(') {
            open.pop();
        }
    }

    static int valueOfLines(String text, int[] names) {
        for (String line : text.split(";")) {
            int ask = line.indexOf('?');
            if (ask < 0) {
                return value(line, names);
            }
            if (value(line.substring(0, ask), names) != 0) {
                return value(line.substring(ask + 1), names);
            }
        }
        return 0;
    }

    private static final String[] SIGNS = {"|", "&", "<=>", "+-", "*/%"};

    static int value(String e, int[] names) {
        for (String signs : SIGNS) {
            int depth = 0;
            for (int i = e.length() - 1; i > 0; i--) {
                char c = e.charAt(i);
                depth += c == ')' ? 1 : c == '(' ? -1 : 0;
                boolean between = "|&<=>+-*/%!(".indexOf(e.charAt(i - 1)) < 0;
                if (depth == 0 && between && signs.indexOf(c) >= 0) {
                    return joined(c, value(e.substring(0, i), names), value(e.substring(i + 1), names));
                }
            }
        }
        char first = e.charAt(0);
        if (first == '!') {
            return value(e.substring(1), names) == 0 ? 1 : 0;
        }
        if (first == '-') {
            return -value(e.substring(1), names);
        }
        if (first == '(') {
            return value(e.substring(1, e.length() - 1), names);
        }
        int name = "xyzdtn".indexOf(first);
        return name >= 0 ? names[name] : Integer.parseInt(e);
    }

    private static int joined(char sign, int a, int b) {
        switch (sign) {
            case '|': return a != 0 || b != 0 ? 1 : 0;
            case '&': return a != 0 && b != 0 ? 1 : 0;
            case '<': return a < b ? 1 : 0;
            case '=': return a == b ? 1 : 0;
            case '>': return a > b ? 1 : 0;
            case '+': return a + b;
            case '-': return a - b;
            case '*': return a * b;
            case '/': return b == 0 ? 0 : a / b;
            default: return b == 0 ? 0 : a % b;
        }
    }

    // what an object has

    private World world = new World();
    private World image = null;
    private String tape = "";
    private final List<int[]> done = new ArrayList<>();
    private final List<int[]> undone = new ArrayList<>();
    private final List<Integer> kinds = new ArrayList<>();
    private final List<Integer> trace = new ArrayList<>();
    private final Object[] shelves = new Object[6];

    /** A row; its sort tells which bits an element keeps. */
    record Row(int sort, long[] v) { }

    static boolean in(int v, int low, int high) {
        return v >= low && v <= high;
    }

    private boolean isLaw(int number) {
        return in(number, 0, world.laws.size() - 1);
    }

    private static int bit(int number) {
        return 1 << number;
    }

    int feed(int letter) {
        if (!in(letter, 0, 255)) {
            return BAD;
        }
        if (tape.length() == 60) {
            return FULL;
        }
        tape += (char) letter;
        return tape.length();
    }

    int law(int date, int says) {
        if (!in(date, 0, 99) || !in(says, 0, 2)) {
            return BAD;
        }
        if (world.laws.size() == 10) {
            return FULL;
        }
        String text = tape;
        tape = "";
        int fault = fault(text);
        if (fault >= 0) {
            return -100 - fault;
        }
        world.laws.add(new Told(world.laws.size(), text, date, says, -1));
        return world.laws.size() - 1;
    }

    int laws(int shelf, int i, int n) {
        if (!in(shelf, 0, 5) || !in(n, 1, 10)) {
            return BAD;
        }
        if (shelves[shelf] == null) {
            return 0;
        }
        if (!(shelves[shelf] instanceof Row row) || row.sort != 0) {
            return -12;
        }
        for (int came = 0; came < n; came++) {
            long at = i + 6L * came;
            if (i < 0 || at + 6 > row.v.length || world.laws.size() == 10) {
                return came;
            }
            long[] six = Arrays.copyOfRange(row.v, (int) at, (int) at + 6);
            int[] low = {0, 0, -1, 0, 0, 0}, high = {99, 2, 9, 2, 2, 9};
            for (int k = 0; k < 6; k++) {
                if (six[k] < low[k] || six[k] > high[k]) {
                    return came;
                }
            }
            String text = "" + "xyz".charAt((int) six[3]) + "<=>".charAt((int) six[4]) + six[5];
            world.laws.add(new Told(world.laws.size(), text, (int) six[0], (int) six[1], (int) six[2]));
        }
        return n;
    }

    private int change(int number, int what, int v) {
        int was;
        if (what == 3) {
            was = world.rule;
            world.rule = v;
        } else if (what == 4) {
            was = world.today;
            world.today = v;
        } else {
            was = of(number, what);
            world.laws.set(number, world.laws.get(number).with(what, v));
        }
        return was;
    }

    int mend(int number, int what, int v) {
        int[] low = {0, 0, -1, 0, 0}, high = {99, 2, 9, 3, 99};
        if (!in(what, 0, 4) || !in(v, low[what], high[what]) || (what < 3 ? !isLaw(number) : number != 0)) {
            return VOID;
        }
        int was = change(number, what, v);
        if (was == v) {
            return was;
        }
        done.add(new int[] {number, what, was, v});
        if (done.size() > 40) {
            done.remove(0);
        }
        undone.clear();
        return was;
    }

    int moved(int word, int to, int date) {
        if (!in(word, 0, 2) || !in(to, -1, 2) || to == word || to >= 0 && !in(date, 0, 99)) {
            return BAD;
        }
        world.to[word] = to;
        world.from[word] = date;
        return 1;
    }

    int of(int number, int what) {
        if (in(what, 0, 5) && isLaw(number)) {
            Told law = world.laws.get(number);
            int[] all = {law.date, law.says, law.strikes, world.there(law) ? 1 : 0, world.stands(law) ? 1 : 0,
                world.width(law)};
            return all[what];
        }
        if (what == 10 && in(number, 0, 2)) {
            return world.to[number] >= 0 && world.from[number] <= world.today ? world.to[number] : number;
        }
        return what == 20 && number == 0 ? world.rule : what == 21 && number == 0 ? world.today : VOID;
    }

    int speaks(int law, int kase) {
        return !isLaw(law) || !isCase(kase) ? BAD : world.speaks(world.laws.get(law), kase) ? 1 : 0;
    }

    int verdict(int kase, int what) {
        if (!isCase(kase) || !in(what, 0, 2)) {
            return BAD;
        }
        Told holder = world.holder(kase, world.rule);
        if (holder == null) {
            return NOT;
        }
        int beaten = 0;
        for (Told law : world.laws) {
            beaten |= world.stands(law) && world.speaks(law, kase) && law.says != holder.says ? bit(law.number) : 0;
        }
        return new int[] {holder.says, holder.number, beaten}[what];
    }

    private int refusal(int shelf) {
        if (!in(shelf, 0, 5)) {
            return BAD;
        }
        return shelves[shelf] == null ? -11 : shelves[shelf] instanceof Row row && row.sort == 1 ? 0 : -12;
    }

    private static boolean isTwo(long[] v, int k) {
        return k + 1 < v.length && isCase((int) v[k]) && (in((int) v[k + 1], 0, 2) || v[k + 1] == NOT);
    }

    private static int wrong(World w, long[] v) {
        for (int k = 0; k < v.length; k += 2) {
            if (!isTwo(v, k) || w.verdict((int) v[k]) != v[k + 1]) {
                return k / 2;
            }
        }
        return NOT;
    }

    private long[] rowOn(int shelf) {
        return shelves[shelf] instanceof Row row ? row.v : new long[0];
    }

    int judge(int shelf) {
        int refusal = refusal(shelf);
        return refusal != 0 ? refusal : wrong(world, rowOn(shelf));
    }

    int never() {
        int bits = bit(world.laws.size()) - 1;
        for (int kase : cases()) {
            Told holder = world.holder(kase, world.rule);
            bits &= holder == null ? -1 : ~bit(holder.number);
        }
        return bits;
    }

    private static int manyOrFirst(List<Integer> found, boolean many) {
        return many ? found.size() : found.isEmpty() ? NOT : found.get(0);
    }

    int clash(int ij, int what) {
        int i = ij / 10, j = ij % 10;
        if (!in(ij, 0, 99) || i == j || !in(what, 0, 1) || !isLaw(i) || !isLaw(j)) {
            return BAD;
        }
        Told a = world.laws.get(i), b = world.laws.get(j);
        if (!world.there(a) || !world.there(b)) {
            return BAD;
        }
        return manyOrFirst(cases().stream().filter(
            kase -> a.says != b.says && world.speaks(a, kase) && world.speaks(b, kase)).toList(), what == 1);
    }

    private static final String[] CONDITIONS = conditions();

    private static String[] conditions() {
        List<String> all = new ArrayList<>();
        for (char word : "xyz".toCharArray()) {
            for (char sign : "<=>".toCharArray()) {
                for (int number = 0; number < 5; number++) {
                    all.add("" + word + sign + number);
                }
            }
        }
        return all.toArray(new String[0]);
    }

    private World withWording(String text, int date, int says) {
        World w = world.copy();
        w.laws.add(new Told(10, text, date, says, -1));
        return w;
    }

    World worldWith(String text, int date, int says) {
        return withWording(text, date, says);
    }

    World worldWithout(int set) {
        World w = world.copy();
        w.laws.removeIf(law -> (set >> law.number & 1) == 1);
        return w;
    }

    int write(int shelf, int date, int says) {
        if (!in(date, 0, 99) || !in(says, 0, 2)) {
            return BAD;
        }
        int refusal = refusal(shelf);
        if (refusal != 0) {
            return refusal;
        }
        long[] v = rowOn(shelf);
        if (wrong(withWording("1", date, says), v) == NOT) {
            return 0;
        }
        for (int i = 0; i < 45; i++) {
            if (wrong(withWording(CONDITIONS[i], date, says), v) == NOT) {
                return 100 * (i + 1);
            }
        }
        for (int i = 0; i < 45; i++) {
            for (int j = i + 1; j < 45; j++) {
                if (wrong(withWording(CONDITIONS[i] + "&" + CONDITIONS[j], date, says), v) == NOT) {
                    return 100 * (i + 1) + j + 1;
                }
            }
        }
        return NOT;
    }

    private boolean anyWordingFor(int kase, int verdict, int date, int says) {
        for (int i = 0; i < 45; i++) {
            for (int j = i; j < 45; j++) {
                if (withWording(CONDITIONS[i] + "&" + CONDITIONS[j], date, says).verdict(kase) == verdict) {
                    return true;
                }
            }
        }
        return withWording("1", date, says).verdict(kase) == verdict;
    }

    int bars(int shelf, int date, int says) {
        if (!in(date, 0, 99) || !in(says, 0, 2)) {
            return BAD;
        }
        int refusal = refusal(shelf);
        if (refusal != 0) {
            return refusal;
        }
        long[] v = rowOn(shelf);
        for (int k = 0; k < v.length; k += 2) {
            if (!isTwo(v, k)) {
                return NOT;
            }
            if (!anyWordingFor((int) v[k], (int) v[k + 1], date, says)) {
                Told holder = world.holder((int) v[k], world.rule);
                return holder == null ? NOT : holder.number;
            }
        }
        return NOT;
    }

    private List<Integer> unlikeIn(World other) {
        return cases().stream().filter(kase -> world.verdict(kase) != other.verdict(kase)).toList();
    }

    int meant(int word, int what) {
        if (!in(word, 0, 2) || !in(what, 0, 1)) {
            return BAD;
        }
        World other = world.copy();
        other.to[word] = -1;
        return manyOrFirst(unlikeIn(other), what == 0);
    }

    int falseOnes(int shelf) {
        int refusal = refusal(shelf);
        if (refusal != 0) {
            return refusal;
        }
        for (int size = 0; size <= world.laws.size(); size++) {
            for (int set = 0; set < bit(world.laws.size()); set++) {
                if (Integer.bitCount(set) == size && wrong(worldWithout(set), rowOn(shelf)) == NOT) {
                    return set;
                }
            }
        }
        return NOT;
    }

    int under(int law, int what) {
        if (!isLaw(law) || !in(what, 0, 1)) {
            return BAD;
        }
        if (!world.there(world.laws.get(law))) {
            return STATE;
        }
        World other = world.copy();
        other.laws.set(law, world.laws.get(law).with(0, -1));
        int fallen = 0;
        for (int k = 0; k < world.laws.size(); k++) {
            fallen |= world.stands(world.laws.get(k)) && !other.stands(other.laws.get(k)) ? bit(k) : 0;
        }
        return what == 1 ? fallen : unlikeIn(other).size();
    }

    int unlike(int rs, int what) {
        if (rs < 0 || !in(rs / 10, 0, 3) || !in(rs % 10, 0, 3) || !in(what, 0, 1)) {
            return BAD;
        }
        return manyOrFirst(cases().stream().filter(
            kase -> world.verdict(kase, rs / 10) != world.verdict(kase, rs % 10)).toList(), what == 0);
    }

    int rings() {
        int many = world.laws.size();
        boolean[][] leads = new boolean[10][10];
        for (Told law : world.laws) {
            if (world.there(law) && isLaw(law.strikes) && world.there(world.laws.get(law.strikes))) {
                leads[law.number][law.strikes] = true;
            }
        }
        for (int k = 0; k < many; k++) {
            for (int i = 0; i < many; i++) {
                for (int j = 0; j < many; j++) {
                    leads[i][j] |= leads[i][k] && leads[k][j];
                }
            }
        }
        int bits = 0;
        for (int k = 0; k < many; k++) {
            bits |= leads[k][k] ? bit(k) : 0;
        }
        return bits;
    }

    int image() {
        image = world.copy();
        return image.laws.size();
    }

    int back() {
        if (image == null) {
            return STATE;
        }
        World now = image.copy();
        now.laws.addAll(world.laws.subList(image.laws.size(), world.laws.size()));
        now.rule = world.rule;
        now.today = world.today;
        world = now;
        done.clear();
        undone.clear();
        return image.laws.size();
    }

    int undo() {
        if (done.isEmpty()) {
            return STATE;
        }
        int[] c = done.remove(done.size() - 1);
        change(c[0], c[1], c[2]);
        undone.add(c);
        return done.size();
    }

    int redo() {
        if (undone.isEmpty()) {
            return STATE;
        }
        int[] c = undone.remove(undone.size() - 1);
        change(c[0], c[1], c[3]);
        done.add(c);
        return undone.size();
    }

    // bodies, by Java's own classes

    interface Says {
        int n();

        List<Integer> trace();

        default int says(int x) {
            trace().add(1);
            return x + n();
        }
    }

    interface Tells {
        List<Integer> trace();

        int holds(int x);

        int beats(int x);

        default int tells(int x) {
            trace().add(2);
            return holds(x) - beats(1);
        }
    }

    static class Clause implements Says, Tells {
        private final int n;
        private final List<Integer> trace;

        Clause(int n, List<Integer> trace) {
            this.n = n;
            this.trace = trace;
        }

        public int n() {
            return n;
        }

        public List<Integer> trace() {
            return trace;
        }

        public int holds(int x) {
            trace.add(10);
            return says(x) * 2;
        }

        public int beats(int x) {
            trace.add(11);
            return x ^ n;
        }
    }

    static class Must extends Clause {
        Must(int n, List<Integer> trace) {
            super(n, trace);
        }

        public int says(int x) {
            trace().add(20);
            return super.says(x) + 3;
        }
    }

    static class May extends Clause {
        May(int n, List<Integer> trace) {
            super(n, trace);
        }

        public int holds(int x) {
            trace().add(30);
            return -super.holds(x);
        }
    }

    static class Unless extends May {
        Unless(int n, List<Integer> trace) {
            super(n, trace);
        }

        public int beats(int x) {
            trace().add(40);
            return super.beats(x) * 3;
        }

        public int holds(int x) {
            trace().add(41);
            return super.holds(x + 1);
        }
    }

    static class Old extends Must {
        Old(int n, List<Integer> trace) {
            super(n, trace);
        }

        public int tells(int x) {
            trace().add(50);
            return super.tells(x) ^ 5;
        }
    }

    static class Forged extends Unless {
        Forged(int n, List<Integer> trace) {
            super(n, trace);
        }

        public int beats(int x) {
            trace().add(60);
            return super.beats(x) - says(2);
        }

        public int tells(int x) {
            trace().add(61);
            return super.tells(x) + 1;
        }
    }

    static class Word extends Clause {
        Word(int n, List<Integer> trace) {
            super(n, trace);
        }

        public int says(int x) {
            trace().add(70);
            return super.says(x) * 2;
        }
    }

    static class Found extends Word {
        Found(int n, List<Integer> trace) {
            super(n, trace);
        }

        public int holds(int x) {
            trace().add(80);
            return super.holds(x) + beats(2);
        }

        public int says(int x) {
            trace().add(81);
            return super.says(x) - 1;
        }
    }

    private Clause clause(int n) {
        switch (kinds.get(n)) {
            case 0: return new Clause(n, trace);
            case 1: return new Must(n, trace);
            case 2: return new May(n, trace);
            case 3: return new Unless(n, trace);
            case 4: return new Old(n, trace);
            case 5: return new Forged(n, trace);
            case 6: return new Word(n, trace);
            default: return new Found(n, trace);
        }
    }

    private static final Class<?>[] KINDS = {Clause.class, Must.class, May.class, Unless.class, Old.class,
        Forged.class, Word.class, Found.class};

    int body(int kind) {
        if (!in(kind, 0, 7)) {
            return BAD;
        }
        if (kinds.size() == 50) {
            return FULL;
        }
        kinds.add(kind);
        return kinds.size() - 1;
    }

    int act(int body, int act, int x) {
        trace.clear();
        if (!in(body, 0, kinds.size() - 1) || !in(act, 0, 3)) {
            return 0;
        }
        Clause c = clause(body);
        return act == 0 ? c.says(x) : act == 1 ? c.holds(x) : act == 2 ? c.beats(x) : c.tells(x);
    }

    int trace(int i) {
        return in(i, 0, Math.min(24, trace.size()) - 1) ? trace.get(i) : BAD;
    }

    int keep(int shelf, int body) {
        if (!in(shelf, 0, 5) || !in(body, -1, kinds.size() - 1)) {
            return BAD;
        }
        shelves[shelf] = body < 0 ? null : (Integer) body;
        return 1;
    }

    int row(int shelf, int sort, int n) {
        if (!in(shelf, 0, 5) || !in(sort, 0, 4) || n > 60) {
            return BAD;
        }
        if (n < 0) {
            return -14;
        }
        shelves[shelf] = new Row(sort, new long[n]);
        return 1;
    }

    int put(int shelf, int i, long v) {
        if (!in(shelf, 0, 5)) {
            return BAD;
        }
        if (shelves[shelf] == null) {
            return -11;
        }
        if (!(shelves[shelf] instanceof Row row)) {
            return -12;
        }
        if (!in(i, 0, row.v.length - 1)) {
            return -13;
        }
        row.v[i] = new long[] {(byte) v, (short) v, (int) v, v, v == 0 ? 0 : 1}[row.sort];
        return 1;
    }

    long element(int shelf, int i) {
        if (in(shelf, 0, 5) && shelves[shelf] instanceof Row row && in(i, 0, row.v.length - 1)) {
            return row.v[i];
        }
        return Long.MIN_VALUE;
    }

    int shift(int shelf, int i, int other, int j, int n) {
        if (!in(shelf, 0, 5) || !in(other, 0, 5)) {
            return BAD;
        }
        if (shelves[shelf] == null || shelves[other] == null) {
            return -11;
        }
        if (!(shelves[shelf] instanceof Row a) || !(shelves[other] instanceof Row b) || a.sort != b.sort) {
            return -12;
        }
        if (i < 0 || j < 0 || n < 0 || (long) i + n > a.v.length || (long) j + n > b.v.length) {
            return -13;
        }
        long[] before = a.v.clone();
        for (int k = 0; k < n; k++) {
            b.v[j + k] = before[i + k];
        }
        return n;
    }

    int taken(int shelf, int k) {
        if (!in(shelf, 0, 5) || !in(k, 0, 7)) {
            return BAD;
        }
        if (shelves[shelf] == null) {
            return -11;
        }
        if (shelves[shelf] instanceof Integer body && KINDS[k].isInstance(clause(body))) {
            return kinds.get(body);
        }
        return -12;
    }

    int count(int what) {
        int[] all = {world.laws.size(), (int) world.laws.stream().filter(world::there).count(),
            (int) world.laws.stream().filter(world::stands).count(), tape.length(), done.size(), kinds.size(),
            trace.size()};
        return in(what, 0, 6) ? all[what] : BAD;
    }
}
