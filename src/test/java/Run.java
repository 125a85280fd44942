import java.util.ArrayList;
import java.util.List;

/** A program whose calls are told and counted: a test that calls one object more than 512 times is wrong itself. */
final class Run {
    static final int MOST_CALLS = 512;
    private static final int SHOWN = 12;
    private static Run latest = null;

    private final OldestLaw law = new OldestLaw();
    private final List<String> calls = new ArrayList<>();

    /** The calls on the object that was called last, with a gap if they are many. */
    static String latestCalls() {
        if (latest == null) {
            return "";
        }
        StringBuilder told = new StringBuilder();
        int many = latest.calls.size();
        for (int k = 0; k < many; k++) {
            if (many <= 2 * SHOWN || k < SHOWN || k >= many - SHOWN) {
                told.append("\n    ").append(latest.calls.get(k));
            } else if (k == SHOWN) {
                told.append("\n    .. ").append(many - 2 * SHOWN).append(" calls more ..");
            }
        }
        return told.toString();
    }

    int callsLeft() {
        return MOST_CALLS - calls.size();
    }

    String call(int k) {
        return calls.get(k);
    }

    private OldestLaw told(String name, long... given) {
        latest = this;
        StringBuilder call = new StringBuilder(name).append('(');
        for (int k = 0; k < given.length; k++) {
            call.append(k > 0 ? ", " : "").append(given[k]);
        }
        calls.add(call.append(')').toString());
        if (calls.size() > MOST_CALLS) {
            throw new IllegalStateException("the test makes more than " + MOST_CALLS + " calls: " + call);
        }
        return law;
    }

    int feed(int letter) {
        return told("feed", letter).feed(letter);
    }

    int law(int date, int says) {
        return told("law", date, says).law(date, says);
    }

    int laws(int shelf, int i, int n) {
        return told("laws", shelf, i, n).laws(shelf, i, n);
    }

    int mend(int number, int what, int v) {
        return told("mend", number, what, v).mend(number, what, v);
    }

    int moved(int word, int to, int date) {
        return told("moved", word, to, date).moved(word, to, date);
    }

    int of(int number, int what) {
        return told("of", number, what).of(number, what);
    }

    int speaks(int number, int kase) {
        return told("speaks", number, kase).speaks(number, kase);
    }

    int verdict(int kase, int what) {
        return told("verdict", kase, what).verdict(kase, what);
    }

    int judge(int shelf) {
        return told("judge", shelf).judge(shelf);
    }

    int never() {
        return told("never").never();
    }

    int clash(int ij, int what) {
        return told("clash", ij, what).clash(ij, what);
    }

    int write(int shelf, int date, int says) {
        return told("write", shelf, date, says).write(shelf, date, says);
    }

    int bars(int shelf, int date, int says) {
        return told("bars", shelf, date, says).bars(shelf, date, says);
    }

    int meant(int word, int what) {
        return told("meant", word, what).meant(word, what);
    }

    int falseOnes(int shelf) {
        return told("falseOnes", shelf).falseOnes(shelf);
    }

    int under(int number, int what) {
        return told("under", number, what).under(number, what);
    }

    int unlike(int rs, int what) {
        return told("unlike", rs, what).unlike(rs, what);
    }

    int rings() {
        return told("rings").rings();
    }

    int image() {
        return told("image").image();
    }

    int back() {
        return told("back").back();
    }

    int undo() {
        return told("undo").undo();
    }

    int redo() {
        return told("redo").redo();
    }

    int body(int kind) {
        return told("body", kind).body(kind);
    }

    int act(int body, int act, int x) {
        return told("act", body, act, x).act(body, act, x);
    }

    int trace(int i) {
        return told("trace", i).trace(i);
    }

    int keep(int shelf, int body) {
        return told("keep", shelf, body).keep(shelf, body);
    }

    int row(int shelf, int sort, int n) {
        return told("row", shelf, sort, n).row(shelf, sort, n);
    }

    int put(int shelf, int i, long v) {
        return told("put", shelf, i, v).put(shelf, i, v);
    }

    long element(int shelf, int i) {
        return told("element", shelf, i).element(shelf, i);
    }

    int shift(int shelf, int i, int other, int j, int n) {
        return told("shift", shelf, i, other, j, n).shift(shelf, i, other, j, n);
    }

    int taken(int shelf, int k) {
        return told("taken", shelf, k).taken(shelf, k);
    }

    int count(int what) {
        return told("count", what).count(what);
    }
}
