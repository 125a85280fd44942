/** Laws told as texts with dates; which of them stand, speak, hold and are beaten, and what might be. */
public final class OldestLaw {
    public static final int BAD = -1, NOT = -2, FULL = -3, STATE = -5, VOID = -2000000000;

    private static final int NOTHING_THERE = -11, OTHER_KIND = -12, NO_PLACE = -13, NO_SIZE = -14;
    private static final int NO_FAULT = -1, FAULTS_FROM = -100;
    private static final int LAWS = 10, SHELVES = 6, BYTES = 60, CASES = 125, RULES = 4, LAST_DATE = 99;
    private static final int MAY_NOT = 0, MAY = 1, MUST = 2;
    private static final int DATE = 0, SAYS = 1, STRIKES = 2, RULE = 3, TODAY = 4;
    private static final int NO_IMAGE = -1;

    private final int[] tape = new int[BYTES];
    private int taped = 0;
    private final int[] comparison = new int[3];
    private final Reader reader = new Reader();
    private final Court court = new Court();
    private final Changes changes = new Changes();
    private final Wordings wordings = new Wordings();
    private final Clauses clauses = new Clauses();
    private final Shelf[] shelves = new Shelf[SHELVES];
    private final Shelf noShelf = new Shelf();
    private final Cases found = new Cases();
    private int imaged = NO_IMAGE;

    public OldestLaw() {
        for (int k = 0; k < shelves.length; k++) {
            shelves[k] = new Shelf();
        }
    }

    // ---- laws, words

    public int feed(int letter) {
        if (letter < 0 || letter > 255) {
            return BAD;
        }
        if (taped < 0 || taped >= tape.length) {
            return FULL;
        }
        tape[taped] = letter;
        taped++;
        return taped;
    }

    public int law(int date, int says) {
        if (!isDate(date) || !isSaying(says)) {
            return BAD;
        }
        if (court.many >= LAWS) {
            return FULL;
        }
        int fault = reader.read(tape, taped);
        taped = 0;
        if (fault != NO_FAULT) {
            return FAULTS_FROM - fault;
        }
        return court.admit(date, says, -1, reader.text);
    }

    public int laws(int shelf, int i, int n) {
        if (!isShelf(shelf) || n < 1 || n > LAWS) {
            return BAD;
        }
        Shelf from = shelfAt(shelf);
        if (from.isBare()) {
            return 0;
        }
        if (from.holds != Shelf.BYTE_ROW) {
            return OTHER_KIND;
        }
        if (i < 0) {
            return 0;
        }
        int came = 0;
        while (came < n && cameFromSix(from, i + 6 * came)) {
            came++;
        }
        return came;
    }

    private boolean cameFromSix(Shelf from, int i) {
        if (i > from.size - 6 || court.many >= LAWS) {
            return false;
        }
        int date = (int) from.at(i), says = (int) from.at(i + 1), strikes = (int) from.at(i + 2);
        int word = (int) from.at(i + 3), sign = (int) from.at(i + 4), number = (int) from.at(i + 5);
        if (!isDate(date) || !isSaying(says) || !isStruck(strikes) || !isWord(word)) {
            return false;
        }
        if (sign < 0 || sign > 2 || number < 0 || number > 9) {
            return false;
        }
        comparison[0] = 'x' + word;
        comparison[1] = '<' + sign;
        comparison[2] = '0' + number;
        return reader.read(comparison, comparison.length) == NO_FAULT
            && court.admit(date, says, strikes, reader.text) >= 0;
    }

    public int mend(int number, int what, int v) {
        if (!mayBecome(number, what, v)) {
            return VOID;
        }
        int was = court.valueOf(number, what);
        // what stays as it is has not changed: nothing to undo, and nothing that came behind what was undone
        if (was != v) {
            changes.add(number, what, was, v);
            court.set(number, what, v);
        }
        return was;
    }

    private boolean mayBecome(int number, int what, int v) {
        switch (what) {
            case DATE: return court.knows(number) && isDate(v);
            case SAYS: return court.knows(number) && isSaying(v);
            case STRIKES: return court.knows(number) && isStruck(v);
            case RULE: return number == 0 && isRule(v);
            case TODAY: return number == 0 && isDate(v);
            default: return false;
        }
    }

    public int moved(int word, int to, int date) {
        if (!isWord(word)) {
            return BAD;
        }
        if (to == -1) {
            court.words.move(word, -1, 0);
            return 1;
        }
        if (!isWord(to) || to == word || !isDate(date)) {
            return BAD;
        }
        court.words.move(word, to, date);
        return 1;
    }

    public int of(int number, int what) {
        if (what >= 0 && what <= 5) {
            return court.knows(number) ? ofLaw(number, what) : VOID;
        }
        if (what == 10 && isWord(number)) {
            return court.words.meaning(number, court.today);
        }
        if (what == 20 && number == 0) {
            return court.rule;
        }
        return what == 21 && number == 0 ? court.today : VOID;
    }

    private int ofLaw(int number, int what) {
        if (what <= STRIKES) {
            return court.valueOf(number, what);
        }
        if (what == 3) {
            return court.isThere(number) ? 1 : 0;
        }
        court.hear();
        if (what == 4) {
            return court.isStanding(number) ? 1 : 0;
        }
        return court.at(number).speech.size();
    }

    // ---- cases

    public int speaks(int law, int kase) {
        int place = Cases.placeOf(kase);
        if (!court.knows(law) || place < 0) {
            return BAD;
        }
        court.hear();
        return court.at(law).speech.has(place) ? 1 : 0;
    }

    public int verdict(int kase, int what) {
        int place = Cases.placeOf(kase);
        if (place < 0 || what < 0 || what > 2) {
            return BAD;
        }
        court.hear();
        Law holder = court.holder(place, court.rule);
        if (holder == null) {
            return NOT;
        }
        if (what == 0) {
            return holder.says;
        }
        return what == 1 ? holder.number : court.beatenBy(holder, place);
    }

    public int judge(int shelf) {
        int refusal = refusalOfTold(shelf);
        if (refusal != 0) {
            return refusal;
        }
        court.hear();
        int wrong = court.firstWrong(shelfAt(shelf));
        return wrong < 0 ? NOT : wrong;
    }

    public int never() {
        court.hear();
        int holding = 0;
        for (int c = 0; c < CASES; c++) {
            Law holder = court.holder(c, court.rule);
            if (holder != null) {
                holding |= 1 << holder.number;
            }
        }
        return court.numbers() & ~holding;
    }

    public int clash(int ij, int what) {
        if (ij < 0 || ij > 99 || !isEither(what)) {
            return BAD;
        }
        int i = ij / 10, j = ij % 10;
        if (i == j || !court.isThere(i) || !court.isThere(j)) {
            return BAD;
        }
        court.hear();
        Law one = court.at(i), other = court.at(j);
        found.clear();
        if (one.says != other.says) {
            found.takeBoth(one.speech, other.speech);
        }
        return what == 0 ? found.first() : found.size();
    }

    // ---- what might be

    public int write(int shelf, int date, int says) {
        int refusal = refusalOfNew(shelf, date, says);
        if (refusal != 0) {
            return refusal;
        }
        Shelf told = shelfAt(shelf);
        if (!told.isAllTwos()) {
            return NOT;
        }
        court.hear();
        wordings.prepare(court.words, court.today, date, says);
        return wordings.firstFitting(told, court);
    }

    public int bars(int shelf, int date, int says) {
        int refusal = refusalOfNew(shelf, date, says);
        if (refusal != 0) {
            return refusal;
        }
        court.hear();
        wordings.prepare(court.words, court.today, date, says);
        Law barring = wordings.barring(shelfAt(shelf), court);
        return barring == null ? NOT : barring.number;
    }

    public int meant(int word, int what) {
        if (!isWord(word) || !isEither(what)) {
            return BAD;
        }
        court.hear();
        court.rememberVerdicts();
        Words words = court.words;
        int to = words.to(word), from = words.from(word);
        words.move(word, -1, 0);
        court.hear();
        court.findChanged(found);
        words.move(word, to, from);
        return what == 0 ? found.size() : found.first();
    }

    public int falseOnes(int shelf) {
        int refusal = refusalOfTold(shelf);
        if (refusal != 0) {
            return refusal;
        }
        Shelf told = shelfAt(shelf);
        if (!told.isAllTwos()) {
            return NOT;
        }
        court.hear();
        int fewest = LAWS + 1, least = NOT;
        int last = court.numbers();
        for (int set = 0; set <= last; set++) {
            int size = Integer.bitCount(set);
            if (size < fewest) {
                court.standWithout(set);
                if (court.firstWrong(told) < 0) {
                    fewest = size;
                    least = set;
                }
            }
        }
        return least;
    }

    public int under(int law, int what) {
        if (!court.knows(law) || !isEither(what)) {
            return BAD;
        }
        if (!court.isThere(law)) {
            return STATE;
        }
        court.hear();
        court.rememberVerdicts();
        int stood = court.standing;
        Law oldest = court.at(law);
        int date = oldest.date;
        oldest.date = -1;
        court.hear();
        court.findChanged(found);
        oldest.date = date;
        return what == 0 ? found.size() : stood & ~court.standing;
    }

    public int unlike(int rs, int what) {
        if (rs < 0 || !isRule(rs / 10) || !isRule(rs % 10) || !isEither(what)) {
            return BAD;
        }
        court.hear();
        found.clear();
        for (int c = 0; c < CASES; c++) {
            if (court.verdictIn(c, rs / 10) != court.verdictIn(c, rs % 10)) {
                found.add(c);
            }
        }
        return what == 0 ? found.size() : found.first();
    }

    public int rings() {
        int ringed = 0;
        for (int k = 0; k < court.many; k++) {
            if (court.comesBack(k)) {
                ringed |= 1 << k;
            }
        }
        return ringed;
    }

    public int image() {
        for (int k = 0; k < court.many; k++) {
            court.at(k).draw();
        }
        court.words.draw();
        imaged = court.many;
        return imaged;
    }

    public int back() {
        if (imaged == NO_IMAGE) {
            return STATE;
        }
        for (int k = 0; k < imaged; k++) {
            court.at(k).restore();
        }
        court.words.restore();
        changes.forget();
        return imaged;
    }

    public int undo() {
        int k = changes.latest();
        if (k < 0) {
            return STATE;
        }
        court.set(changes.number(k), changes.what(k), changes.was(k));
        return changes.stepBack();
    }

    public int redo() {
        int k = changes.next();
        if (k < 0) {
            return STATE;
        }
        court.set(changes.number(k), changes.what(k), changes.became(k));
        return changes.stepOn();
    }

    // ---- acts, shelves

    public int body(int kind) {
        if (!Clauses.isKind(kind)) {
            return BAD;
        }
        int number = clauses.add(kind);
        return number < 0 ? FULL : number;
    }

    public int act(int body, int act, int x) {
        return clauses.perform(body, act, x);
    }

    public int trace(int i) {
        return clauses.traced(i);
    }

    public int keep(int shelf, int body) {
        if (!isShelf(shelf) || body != -1 && !clauses.knows(body)) {
            return BAD;
        }
        if (body == -1) {
            shelfAt(shelf).bare();
        } else {
            shelfAt(shelf).takeBody(body);
        }
        return 1;
    }

    public int row(int shelf, int sort, int n) {
        if (!isShelf(shelf) || !Shelf.isSort(sort) || n > Shelf.PLACES) {
            return BAD;
        }
        if (n < 0) {
            return NO_SIZE;
        }
        shelfAt(shelf).takeRow(sort, n);
        return 1;
    }

    public int put(int shelf, int i, long v) {
        int refusal = refusalOfElement(shelf, i);
        if (refusal != 0) {
            return refusal;
        }
        shelfAt(shelf).set(i, v);
        return 1;
    }

    public long element(int shelf, int i) {
        return refusalOfElement(shelf, i) != 0 ? Long.MIN_VALUE : shelfAt(shelf).at(i);
    }

    public int shift(int shelf, int i, int other, int j, int n) {
        if (!isShelf(shelf) || !isShelf(other)) {
            return BAD;
        }
        Shelf from = shelfAt(shelf), to = shelfAt(other);
        if (from.isBare() || to.isBare()) {
            return NOTHING_THERE;
        }
        if (!from.isRow() || from.holds != to.holds) {
            return OTHER_KIND;
        }
        if (!from.hasPlaces(i, n) || !to.hasPlaces(j, n)) {
            return NO_PLACE;
        }
        to.copyFrom(from, i, j, n);
        return n;
    }

    public int taken(int shelf, int k) {
        if (!isShelf(shelf) || !Clauses.isKind(k)) {
            return BAD;
        }
        Shelf one = shelfAt(shelf);
        if (one.isBare()) {
            return NOTHING_THERE;
        }
        int kind = one.holds == Shelf.BODY ? clauses.kindOf(one.body) : -1;
        return Clauses.isUnder(kind, k) ? kind : OTHER_KIND;
    }

    public int count(int what) {
        switch (what) {
            case 0: return court.many;
            case 1: return Integer.bitCount(court.there());
            case 2:
                court.hear();
                return Integer.bitCount(court.standing);
            case 3: return taped;
            case 4: return changes.done;
            case 5: return clauses.many;
            case 6: return clauses.ran;
            default: return BAD;
        }
    }

    // what an argument may be, and what is answered if it is not

    private static boolean isDate(int date) {
        return date >= 0 && date <= LAST_DATE;
    }

    private static boolean isSaying(int says) {
        return says >= MAY_NOT && says <= MUST;
    }

    private static boolean isStruck(int number) {
        return number >= -1 && number < LAWS;
    }

    private static boolean isWord(int word) {
        return word >= 0 && word < Words.MANY;
    }

    private static boolean isRule(int rule) {
        return rule >= 0 && rule < RULES;
    }

    private static boolean isEither(int what) {
        return what == 0 || what == 1;
    }

    private static boolean isShelf(int shelf) {
        return shelf >= 0 && shelf < SHELVES;
    }

    private Shelf shelfAt(int shelf) {
        if (shelf < 0 || shelf >= shelves.length || shelves[shelf] == null) {
            return noShelf;
        }
        return shelves[shelf];
    }

    private int refusalOfTold(int shelf) {
        if (!isShelf(shelf)) {
            return BAD;
        }
        Shelf one = shelfAt(shelf);
        if (one.isBare()) {
            return NOTHING_THERE;
        }
        return one.holds == Shelf.SHORT_ROW ? 0 : OTHER_KIND;
    }

    private int refusalOfNew(int shelf, int date, int says) {
        return isDate(date) && isSaying(says) ? refusalOfTold(shelf) : BAD;
    }

    private int refusalOfElement(int shelf, int i) {
        if (!isShelf(shelf)) {
            return BAD;
        }
        Shelf one = shelfAt(shelf);
        if (one.isBare()) {
            return NOTHING_THERE;
        }
        if (!one.isRow()) {
            return OTHER_KIND;
        }
        return one.hasPlaces(i, 1) ? 0 : NO_PLACE;
    }

    /** A set of cases, each by its place among all (0 .. 124, in the order of their numbers). */
    static final class Cases {
        private long low = 0L;
        private long high = 0L;

        static int placeOf(int kase) {
            if (kase < 0 || kase > 444 || kase / 10 % 10 > 4 || kase % 10 > 4) {
                return -1;
            }
            return kase / 100 * 25 + kase / 10 % 10 * 5 + kase % 10;
        }

        static int numberOf(int place) {
            return digit(place, 0) * 100 + digit(place, 1) * 10 + digit(place, 2);
        }

        /** The number that a word (x, y, z) has in the case of a place. */
        static int digit(int place, int word) {
            if (word == 0) {
                return place / 25;
            }
            return word == 1 ? place / 5 % 5 : place % 5;
        }

        void clear() {
            low = 0L;
            high = 0L;
        }

        void fill() {
            low = -1L;
            high = (1L << (CASES - 64)) - 1L;
        }

        void add(int place) {
            if (place >= 0 && place < 64) {
                low |= 1L << place;
            } else if (place >= 64 && place < CASES) {
                high |= 1L << (place - 64);
            }
        }

        boolean has(int place) {
            if (place < 0 || place >= CASES) {
                return false;
            }
            return (place < 64 ? low >>> place & 1L : high >>> (place - 64) & 1L) != 0L;
        }

        void takeBoth(Cases one, Cases other) {
            low = one.low & other.low;
            high = one.high & other.high;
        }

        int size() {
            return Long.bitCount(low) + Long.bitCount(high);
        }

        /** The number of the first case; NOT, if there is none. */
        int first() {
            for (int c = 0; c < CASES; c++) {
                if (has(c)) {
                    return numberOf(c);
                }
            }
            return NOT;
        }
    }

    /** A text as steps behind one another, so that no case needs to read its bytes again. */
    static final class Text {
        // a step below NAME is a number; ASK bears the place of the next line's first step
        static final int NAME = 10000, SIGN = 20000, ASK = 30000, END = 40000;
        // an unlike sign, since '-' between two is another thing than '-' ahead of one
        static final int NEGATED = '_';
        // a byte makes at most one step, and the text's end one more
        private final int[] steps = new int[BYTES + 1];
        private final int[] stack = new int[BYTES + 1];
        private int length = 0;

        void clear() {
            length = 0;
        }

        int length() {
            return length;
        }

        void add(int step) {
            if (length >= 0 && length < steps.length) {
                steps[length] = step;
                length++;
            }
        }

        /** The ASK at a place leads on to the step that comes next. */
        void aim(int place) {
            if (place >= 0 && place < steps.length) {
                steps[place] = ASK + length;
            }
        }

        void copyFrom(Text other) {
            System.arraycopy(other.steps, 0, steps, 0, steps.length);
            length = other.length;
        }

        int value(int[] names) {
            int top = 0, at = 0;
            for (int k = 0; k < steps.length; k++) {
                if (at < 0 || at >= length || at >= steps.length) {
                    return 0;
                }
                int step = steps[at];
                at++;
                if (step >= ASK) {
                    top--;
                    if (step == END || top < 0 || top >= stack.length) {
                        return valueAt(top);
                    }
                    at = stack[top] == 0 ? step - ASK : at;
                } else if (step >= SIGN) {
                    top = work(step - SIGN, top);
                } else if (top >= 0 && top < stack.length) {
                    stack[top] = step < NAME ? step : named(step - NAME, names);
                    top++;
                }
            }
            return 0;
        }

        private int valueAt(int place) {
            return place >= 0 && place < stack.length ? stack[place] : 0;
        }

        private static int named(int name, int[] names) {
            return name >= 0 && name < names.length ? names[name] : 0;
        }

        /** Works a sign on the stack's top, and tells how many values stand then. */
        private int work(int sign, int top) {
            int taken = sign == '!' || sign == NEGATED ? 1 : 2;
            int to = top - taken;
            if (to < 0 || top > stack.length) {
                return top;
            }
            stack[to] = taken == 1 ? alone(sign, stack[to]) : joined(sign, stack[to], stack[top - 1]);
            return to + 1;
        }

        private static int alone(int sign, int a) {
            return sign == '!' ? bit(a == 0) : -a;
        }

        private static int joined(int sign, int a, int b) {
            switch (sign) {
                case '|': return bit(a != 0 || b != 0);
                case '&': return bit(a != 0 && b != 0);
                case '<': return bit(a < b);
                case '=': return bit(a == b);
                case '>': return bit(a > b);
                case '+': return a + b;
                case '-': return a - b;
                case '*': return a * b;
                case '/': return b == 0 ? 0 : a / b;
                case '%': return b == 0 ? 0 : a % b;
                default: return 0;
            }
        }

        private static int bit(boolean so) {
            return so ? 1 : 0;
        }
    }

    /** Reads bytes as a text. Each of its parts answers whether it came; if not, place is at the fault. */
    static final class Reader {
        private static final int MOST_OPEN = 6, MOST_DIGITS = 4;

        final Text text = new Text();
        private final int[] bytes = new int[BYTES];
        private int many = 0;
        private int place = 0;

        /** The fault of the first so many bytes; NO_FAULT: text is what they say. */
        int read(int[] from, int howMany) {
            many = Math.max(0, Math.min(howMany, Math.min(from.length, bytes.length)));
            System.arraycopy(from, 0, bytes, 0, many);
            place = 0;
            text.clear();
            return lines() ? NO_FAULT : place;
        }

        private boolean comes(int letter) {
            if (letterHere() != letter) {
                return false;
            }
            place++;
            return true;
        }

        private int letterHere() {
            return place >= 0 && place < many && place < bytes.length ? bytes[place] : -1;
        }

        private boolean lines() {
            for (int k = 0; k < BYTES; k++) {
                if (!line()) {
                    return false;
                }
                if (place >= many) {
                    return true;
                }
                if (!comes(';')) {
                    return false;
                }
            }
            return false;
        }

        private boolean line() {
            if (!either(0)) {
                return false;
            }
            if (!comes('?')) {
                text.add(Text.END);
                return true;
            }
            int ask = text.length();
            text.add(Text.ASK);
            if (!either(0)) {
                return false;
            }
            text.add(Text.END);
            text.aim(ask);
            return true;
        }

        private boolean either(int open) {
            boolean came = both(open);
            for (int k = 0; k < BYTES && came && comes('|'); k++) {
                came = both(open);
                text.add(Text.SIGN + '|');
            }
            return came;
        }

        private boolean both(int open) {
            boolean came = compared(open);
            for (int k = 0; k < BYTES && came && comes('&'); k++) {
                came = compared(open);
                text.add(Text.SIGN + '&');
            }
            return came;
        }

        private boolean compared(int open) {
            if (!sum(open)) {
                return false;
            }
            int sign = letterHere();
            if (sign != '<' && sign != '=' && sign != '>') {
                return true;
            }
            place++;
            boolean came = sum(open);
            text.add(Text.SIGN + sign);
            return came;
        }

        private boolean sum(int open) {
            boolean came = product(open);
            for (int k = 0; k < BYTES && came; k++) {
                int sign = letterHere();
                if (sign != '+' && sign != '-') {
                    return true;
                }
                place++;
                came = product(open);
                text.add(Text.SIGN + sign);
            }
            return came;
        }

        private boolean product(int open) {
            boolean came = operand(open);
            for (int k = 0; k < BYTES && came; k++) {
                int sign = letterHere();
                if (sign != '*' && sign != '/' && sign != '%') {
                    return true;
                }
                place++;
                came = operand(open);
                text.add(Text.SIGN + sign);
            }
            return came;
        }

        private boolean operand(int open) {
            int letter = letterHere();
            int name = nameOf(letter);
            if (name >= 0) {
                place++;
                text.add(Text.NAME + name);
                return true;
            }
            if (isDigit(letter)) {
                number();
                return true;
            }
            if (open >= MOST_OPEN || letter != '(' && letter != '!' && letter != '-') {
                return false;
            }
            place++;
            if (letter == '(') {
                return either(open + 1) && comes(')');
            }
            boolean came = operand(open + 1);
            text.add(Text.SIGN + (letter == '!' ? '!' : Text.NEGATED));
            return came;
        }

        private void number() {
            int value = 0;
            for (int k = 0; k < MOST_DIGITS && isDigit(letterHere()); k++) {
                value = value * 10 + letterHere() - '0';
                place++;
            }
            text.add(value);
        }

        private static boolean isDigit(int letter) {
            return letter >= '0' && letter <= '9';
        }

        private static int nameOf(int letter) {
            switch (letter) {
                case 'x': return 0;
                case 'y': return 1;
                case 'z': return 2;
                case 'd': return Court.NAME_OF_DATE;
                case 't': return Court.NAME_OF_TODAY;
                case 'n': return Court.NAME_OF_NUMBER;
                default: return -1;
            }
        }
    }

    /** What each of the words x, y, z has come to mean, and from which date on. */
    static final class Words {
        static final int MANY = 3;
        private final int[] to = new int[MANY];
        private final int[] from = new int[MANY];
        private final int[] imageTo = new int[MANY];
        private final int[] imageFrom = new int[MANY];

        Words() {
            for (int word = 0; word < MANY; word++) {
                to[word] = -1;
            }
        }

        void move(int word, int other, int date) {
            if (word >= 0 && word < MANY) {
                to[word] = other;
                from[word] = date;
            }
        }

        int to(int word) {
            return word >= 0 && word < MANY ? to[word] : -1;
        }

        int from(int word) {
            return word >= 0 && word < MANY ? from[word] : 0;
        }

        int meaning(int word, int today) {
            return to(word) < 0 || from(word) > today ? word : to(word);
        }

        void draw() {
            System.arraycopy(to, 0, imageTo, 0, MANY);
            System.arraycopy(from, 0, imageFrom, 0, MANY);
        }

        void restore() {
            System.arraycopy(imageTo, 0, to, 0, MANY);
            System.arraycopy(imageFrom, 0, from, 0, MANY);
        }
    }

    /** A law, and in which cases it speaks as of the latest hearing. */
    static final class Law {
        final int number;
        int date = 0;
        int says = 0;
        int strikes = -1;
        final Text text = new Text();
        final Cases speech = new Cases();
        // for what the speech was worked out; -1: not yet
        private int heardDate = 0;
        private int heardToday = -1;
        private int heardWords = 0;
        private int imageDate = 0;
        private int imageSays = 0;
        private int imageStrikes = -1;

        Law(int number) {
            this.number = number;
        }

        boolean isOlderThan(Law other) {
            return date < other.date || date == other.date && number < other.number;
        }

        /** Whether this one goes ahead of another one by a rule. */
        boolean goesAhead(Law other, int rule) {
            int unlike = 0;
            if (rule == 1) {
                return other.isOlderThan(this);
            }
            if (rule == 2) {
                unlike = speech.size() - other.speech.size();
            } else if (rule == 3) {
                unlike = hardness() - other.hardness();
            }
            return unlike < 0 || unlike == 0 && isOlderThan(other);
        }

        private int hardness() {
            if (says == MAY) {
                return 0;
            }
            return says == MAY_NOT ? 1 : 2;
        }

        /** Works the speech out, if anything that the text can name is not as it was. */
        void hear(Words words, int today, int[] names) {
            int x = words.meaning(0, today), y = words.meaning(1, today), z = words.meaning(2, today);
            int meanings = x * 9 + y * 3 + z;
            if (heardToday == today && heardDate == date && heardWords == meanings) {
                return;
            }
            heardToday = today;
            heardDate = date;
            heardWords = meanings;
            speech.clear();
            for (int c = 0; c < CASES && names.length >= Court.NAMES; c++) {
                names[0] = Cases.digit(c, x);
                names[1] = Cases.digit(c, y);
                names[2] = Cases.digit(c, z);
                names[Court.NAME_OF_DATE] = date;
                names[Court.NAME_OF_TODAY] = today;
                names[Court.NAME_OF_NUMBER] = number;
                if (text.value(names) != 0) {
                    speech.add(c);
                }
            }
        }

        void draw() {
            imageDate = date;
            imageSays = says;
            imageStrikes = strikes;
        }

        void restore() {
            date = imageDate;
            says = imageSays;
            strikes = imageStrikes;
        }
    }

    /** All laws under their words, rule and day. Who asks it for verdicts calls hear() ahead of that. */
    static final class Court {
        static final int NAME_OF_DATE = 3, NAME_OF_TODAY = 4, NAME_OF_NUMBER = 5, NAMES = 6;

        final Words words = new Words();
        int many = 0;
        int rule = 0;
        int today = LAST_DATE;
        int standing = 0;
        private final Law[] laws = new Law[LAWS];
        private final Law nobody = new Law(LAWS);
        private final int[] byAge = new int[LAWS];
        private final int[] names = new int[NAMES];
        private final int[] verdicts = new int[CASES];

        Court() {
            for (int k = 0; k < laws.length; k++) {
                laws[k] = new Law(k);
            }
        }

        boolean knows(int number) {
            return number >= 0 && number < many;
        }

        Law at(int number) {
            if (number < 0 || number >= laws.length || laws[number] == null) {
                return nobody;
            }
            return laws[number];
        }

        int numbers() {
            return (1 << many) - 1;
        }

        /** The number of the law that comes; -1: there is no room. */
        int admit(int date, int says, int strikes, Text text) {
            if (many >= LAWS) {
                return -1;
            }
            Law one = at(many);
            one.date = date;
            one.says = says;
            one.strikes = strikes;
            one.text.copyFrom(text);
            many++;
            return one.number;
        }

        int valueOf(int number, int what) {
            Law one = at(number);
            switch (what) {
                case DATE: return one.date;
                case SAYS: return one.says;
                case STRIKES: return one.strikes;
                case RULE: return rule;
                default: return today;
            }
        }

        void set(int number, int what, int v) {
            Law one = at(number);
            switch (what) {
                case DATE: one.date = v; break;
                case SAYS: one.says = v; break;
                case STRIKES: one.strikes = v; break;
                case RULE: rule = v; break;
                default: today = v; break;
            }
        }

        boolean isThere(int number) {
            return knows(number) && at(number).date <= today;
        }

        int there() {
            int bits = 0;
            for (int k = 0; k < many; k++) {
                if (isThere(k)) {
                    bits |= 1 << k;
                }
            }
            return bits;
        }

        /** Works out in which cases each law speaks, and which laws stand. */
        void hear() {
            for (int k = 0; k < many; k++) {
                at(k).hear(words, today, names);
            }
            sortByAge();
            standWithout(0);
        }

        private void sortByAge() {
            for (int k = 0; k < many && k < byAge.length; k++) {
                int i = k;
                while (i > 0 && at(k).isOlderThan(at(byAge[i - 1]))) {
                    byAge[i] = byAge[i - 1];
                    i--;
                }
                byAge[i] = k;
            }
        }

        /** Works out which laws stand, as if a set of them were not there. */
        void standWithout(int set) {
            int there = there() & ~set;
            int struck = 0;
            standing = 0;
            for (int k = 0; k < many && k < byAge.length; k++) {
                int bit = 1 << byAge[k];
                if ((there & bit) != 0 && (struck & bit) == 0) {
                    standing |= bit;
                    int strikes = at(byAge[k]).strikes;
                    struck |= strikes < 0 ? 0 : 1 << strikes;
                }
            }
        }

        boolean isStanding(int number) {
            return knows(number) && (standing >> number & 1) != 0;
        }

        /** The law that holds in a case by a rule; null: none speaks. */
        Law holder(int place, int byRule) {
            Law best = null;
            for (int k = 0; k < many; k++) {
                Law one = at(k);
                if (isStanding(k) && one.speech.has(place)
                    && (best == null || one.goesAhead(best, byRule))) {
                    best = one;
                }
            }
            return best;
        }

        int verdictIn(int place, int byRule) {
            return verdictOf(holder(place, byRule));
        }

        static int verdictOf(Law holder) {
            return holder == null ? NOT : holder.says;
        }

        int beatenBy(Law holder, int place) {
            int bits = 0;
            for (int k = 0; k < many; k++) {
                Law one = at(k);
                if (isStanding(k) && one.speech.has(place) && one.says != holder.says) {
                    bits |= 1 << k;
                }
            }
            return bits;
        }

        /** The first two of a row that is not so; -1: there is none. */
        int firstWrong(Shelf told) {
            for (int k = 0; k < told.twos(); k++) {
                if (!told.isTwo(k) || verdictIn(told.placeOfTwo(k), rule) != told.verdictOfTwo(k)) {
                    return k;
                }
            }
            return -1;
        }

        void rememberVerdicts() {
            for (int c = 0; c < verdicts.length; c++) {
                verdicts[c] = verdictIn(c, rule);
            }
        }

        void findChanged(Cases changed) {
            changed.clear();
            for (int c = 0; c < verdicts.length; c++) {
                if (verdicts[c] != verdictIn(c, rule)) {
                    changed.add(c);
                }
            }
        }

        boolean comesBack(int number) {
            int at = number;
            for (int k = 0; k < many; k++) {
                at = isThere(at) ? at(at).strikes : -1;
                if (at == number) {
                    return isThere(number);
                }
            }
            return false;
        }
    }

    /** The wordings of a law that might be, in their order, one of them at a time. */
    static final class Wordings {
        private static final int CONDITIONS = 45, MOST = 1 + 45 + 45 * 44 / 2;

        private final Law law = new Law(LAWS);
        private final Cases[] met = new Cases[CONDITIONS];
        private final Cases all = new Cases();
        // who holds in the case of each two of the row, so long as the law has not come
        private final int[] holding = new int[Shelf.PLACES / 2 + 1];
        private int first = -1;
        private int second = -1;

        Wordings() {
            for (int k = 0; k < met.length; k++) {
                met[k] = new Cases();
            }
            all.fill();
        }

        void prepare(Words words, int today, int date, int says) {
            law.date = date;
            law.says = says;
            for (int k = 0; k < CONDITIONS; k++) {
                int meaning = words.meaning(k / 15, today);
                Cases cases = metBy(k);
                cases.clear();
                for (int c = 0; c < CASES; c++) {
                    if (compares(Cases.digit(c, meaning), k / 5 % 3, k % 5)) {
                        cases.add(c);
                    }
                }
            }
        }

        private static boolean compares(int value, int sign, int number) {
            if (sign == 0) {
                return value < number;
            }
            return sign == 1 ? value == number : value > number;
        }

        /** The cases that meet a condition; -1, that is none, is met by all. */
        private Cases metBy(int condition) {
            if (condition < 0 || condition >= met.length || met[condition] == null) {
                return all;
            }
            return met[condition];
        }

        private void begin() {
            first = -1;
            second = -1;
            word();
        }

        private void goOn() {
            if (second < 0 && first < CONDITIONS - 1) {
                first++;
            } else if (second < 0) {
                first = 0;
                second = 1;
            } else if (second < CONDITIONS - 1) {
                second++;
            } else {
                first++;
                second = first + 1;
            }
            word();
        }

        private void word() {
            law.speech.takeBoth(metBy(first), metBy(second));
        }

        private int number() {
            return 100 * (first + 1) + second + 1;
        }

        /** The number of the first wording that sets all twos of a row right; NOT: none does. */
        int firstFitting(Shelf told, Court court) {
            for (int k = 0; k < told.twos() && k < holding.length; k++) {
                Law holder = court.holder(told.placeOfTwo(k), court.rule);
                holding[k] = holder == null ? -1 : holder.number;
            }
            begin();
            for (int k = 0; k < MOST; k++) {
                if (fits(told, court)) {
                    return number();
                }
                goOn();
            }
            return NOT;
        }

        private boolean fits(Shelf told, Court court) {
            for (int k = 0; k < told.twos() && k < holding.length; k++) {
                Law holder = holding[k] < 0 ? null : court.at(holding[k]);
                if (wouldHold(told.placeOfTwo(k), holder, court.rule)) {
                    holder = law;
                }
                if (told.verdictOfTwo(k) != Court.verdictOf(holder)) {
                    return false;
                }
            }
            return true;
        }

        private boolean wouldHold(int place, Law holder, int rule) {
            return law.speech.has(place) && (holder == null || law.goesAhead(holder, rule));
        }

        /** The law that holds in the first two that no wording sets right; null: none holds, or there is none. */
        Law barring(Shelf told, Court court) {
            for (int k = 0; k < told.twos(); k++) {
                // no wording sets right what is no case with a verdict, and no law is what bars it
                if (!told.isTwo(k)) {
                    return null;
                }
                Law holder = court.holder(told.placeOfTwo(k), court.rule);
                if (isBarred(told, k, holder, court.rule)) {
                    return holder;
                }
            }
            return null;
        }

        private boolean isBarred(Shelf told, int k, Law holder, int rule) {
            int wanted = told.verdictOfTwo(k);
            if (wanted == Court.verdictOf(holder)) {
                return false;
            }
            return wanted != law.says || !mightHold(told.placeOfTwo(k), holder, rule);
        }

        /** Whether any wording would hold; by the narrowest it must speak in few cases for that. */
        private boolean mightHold(int place, Law holder, int rule) {
            begin();
            for (int k = 0; k < MOST; k++) {
                if (wouldHold(place, holder, rule)) {
                    return true;
                }
                goOn();
            }
            return false;
        }
    }

    /** The latest changes: those done, and behind them those undone. */
    static final class Changes {
        private static final int MOST = 40;

        int done = 0;
        private int all = 0;
        private final int[] numbers = new int[MOST];
        private final int[] whats = new int[MOST];
        private final int[] olds = new int[MOST];
        private final int[] news = new int[MOST];

        void add(int number, int what, int was, int v) {
            if (done >= MOST) {
                dropFirst();
            }
            if (done < 0 || done >= MOST) {
                return;
            }
            numbers[done] = number;
            whats[done] = what;
            olds[done] = was;
            news[done] = v;
            done++;
            all = done;
        }

        private void dropFirst() {
            System.arraycopy(numbers, 1, numbers, 0, MOST - 1);
            System.arraycopy(whats, 1, whats, 0, MOST - 1);
            System.arraycopy(olds, 1, olds, 0, MOST - 1);
            System.arraycopy(news, 1, news, 0, MOST - 1);
            done = MOST - 1;
        }

        void forget() {
            done = 0;
            all = 0;
        }

        /** The place of the change to undo; -1: there is none. */
        int latest() {
            return done - 1;
        }

        /** The place of the change to do again; -1: there is none. */
        int next() {
            return done < all ? done : -1;
        }

        int stepBack() {
            done--;
            return done;
        }

        int stepOn() {
            done++;
            return all - done;
        }

        int number(int k) {
            return k >= 0 && k < MOST ? numbers[k] : 0;
        }

        int what(int k) {
            return k >= 0 && k < MOST ? whats[k] : 0;
        }

        int was(int k) {
            return k >= 0 && k < MOST ? olds[k] : 0;
        }

        int became(int k) {
            return k >= 0 && k < MOST ? news[k] : 0;
        }
    }

    /** A shelf: bare, or with a body, or with a row of one sort. */
    static final class Shelf {
        static final int PLACES = 60;
        static final int BARE = -1, BODY = 5;
        static final int BYTE_ROW = 0, SHORT_ROW = 1, INT_ROW = 2, LONG_ROW = 3, BOOLEAN_ROW = 4;
        private static final int NO_VERDICT = -1;

        int holds = BARE;
        int body = -1;
        int size = 0;
        private final long[] elements = new long[PLACES];

        static boolean isSort(int sort) {
            return sort >= BYTE_ROW && sort <= BOOLEAN_ROW;
        }

        boolean isBare() {
            return holds == BARE;
        }

        boolean isRow() {
            return isSort(holds);
        }

        void bare() {
            holds = BARE;
        }

        void takeBody(int number) {
            holds = BODY;
            body = number;
        }

        void takeRow(int sort, int n) {
            holds = sort;
            size = n;
            for (int k = 0; k < elements.length; k++) {
                elements[k] = 0L;
            }
        }

        boolean hasPlaces(int i, int n) {
            return i >= 0 && n >= 0 && n <= size && i <= size - n;
        }

        long at(int i) {
            return i >= 0 && i < size && i < elements.length ? elements[i] : 0L;
        }

        void set(int i, long v) {
            if (i >= 0 && i < size && i < elements.length) {
                elements[i] = cut(v);
            }
        }

        private long cut(long v) {
            switch (holds) {
                case BYTE_ROW: return (byte) v;
                case SHORT_ROW: return (short) v;
                case INT_ROW: return (int) v;
                case LONG_ROW: return v;
                default: return v != 0L ? 1L : 0L;
            }
        }

        void copyFrom(Shelf from, int i, int j, int n) {
            if (from.hasPlaces(i, n) && hasPlaces(j, n)) {
                System.arraycopy(from.elements, i, elements, j, n);
            }
        }

        int twos() {
            return (size + 1) / 2;
        }

        boolean isTwo(int k) {
            return placeOfTwo(k) >= 0 && verdictOfTwo(k) != NO_VERDICT;
        }

        boolean isAllTwos() {
            for (int k = 0; k < twos(); k++) {
                if (!isTwo(k)) {
                    return false;
                }
            }
            return true;
        }

        int placeOfTwo(int k) {
            return Cases.placeOf((int) at(2 * k));
        }

        int verdictOfTwo(int k) {
            int verdict = (int) at(2 * k + 1);
            boolean lacks = 2 * k + 1 >= size;
            return !lacks && (isSaying(verdict) || verdict == NOT) ? verdict : NO_VERDICT;
        }
    }

    /** The bodies kept by call, their kinds, and what they do. */
    static final class Clauses {
        private static final int MOST = 50, KINDS = 8, MOST_TRACED = 24, MOST_DEEP = 40;
        private static final int SAY = 0, HOLD = 1, BEAT = 2, ACTS = 4;
        private static final int[] ABOVE = {-1, 0, 0, 2, 1, 3, 0, 6};
        // by kind, and by act in it: which body of acts the kind itself has; 0: none
        private static final int[] OWN = {
            1, 10, 11, 2,
            20, 0, 0, 0,
            0, 30, 0, 0,
            0, 41, 40, 0,
            0, 0, 0, 50,
            0, 0, 60, 61,
            70, 0, 0, 0,
            81, 80, 0, 0};

        int many = 0;
        int ran = 0;
        private final int[] kinds = new int[MOST];
        private final int[] traces = new int[MOST_TRACED];

        static boolean isKind(int kind) {
            return kind >= 0 && kind < KINDS;
        }

        private static int above(int kind) {
            return kind >= 0 && kind < ABOVE.length ? ABOVE[kind] : -1;
        }

        static boolean isUnder(int kind, int top) {
            int at = kind;
            for (int k = 0; k < KINDS && at >= 0; k++) {
                if (at == top) {
                    return true;
                }
                at = above(at);
            }
            return false;
        }

        /** The number of the body that comes; -1: there is no room. */
        int add(int kind) {
            if (many < 0 || many >= kinds.length) {
                return -1;
            }
            kinds[many] = kind;
            many++;
            return many - 1;
        }

        boolean knows(int number) {
            return number >= 0 && number < many;
        }

        int kindOf(int number) {
            return number >= 0 && number < kinds.length ? kinds[number] : -1;
        }

        int traced(int i) {
            return i >= 0 && i < ran && i < traces.length ? traces[i] : BAD;
        }

        int perform(int number, int act, int x) {
            ran = 0;
            if (!knows(number) || act < 0 || act >= ACTS) {
                return 0;
            }
            return own(number, act, x, 0);
        }

        private void note(int code) {
            if (ran >= 0 && ran < traces.length) {
                traces[ran] = code;
            }
            ran++;
        }

        private static int codeOf(int kind, int act) {
            int i = kind * ACTS + act;
            return kind >= 0 && act >= 0 && act < ACTS && i < OWN.length ? OWN[i] : 0;
        }

        private int own(int number, int act, int x, int deep) {
            return from(kindOf(number), number, act, x, deep);
        }

        /** Does an act by the body that a kind has, or else the next one above it. */
        private int from(int kind, int number, int act, int x, int deep) {
            int owner = kind;
            for (int k = 0; k < KINDS && owner >= 0 && codeOf(owner, act) == 0; k++) {
                owner = above(owner);
            }
            if (owner < 0 || deep > MOST_DEEP) {
                return 0;
            }
            int code = codeOf(owner, act);
            note(code);
            if (owner == 0) {
                return atTop(code, number, x, deep + 1);
            }
            int over = from(above(owner), number, act, code == 41 ? x + 1 : x, deep + 1);
            return changed(code, over, number, deep + 1);
        }

        private int atTop(int code, int number, int x, int deep) {
            switch (code) {
                case 1: return x + number;
                case 2: return own(number, HOLD, x, deep) - own(number, BEAT, 1, deep);
                case 10: return own(number, SAY, x, deep) * 2;
                case 11: return x ^ number;
                default: return 0;
            }
        }

        /** What a body that is not at the top makes of what the one above it gave. */
        private int changed(int code, int over, int number, int deep) {
            switch (code) {
                case 20: return over + 3;
                case 30: return -over;
                case 40: return over * 3;
                case 41: return over;
                case 50: return over ^ 5;
                case 60: return over - own(number, SAY, 2, deep);
                case 61: return over + 1;
                case 70: return over * 2;
                case 80: return over + own(number, BEAT, 2, deep);
                case 81: return over - 1;
                default: return 0;
            }
        }
    }
}
