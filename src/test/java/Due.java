/** What the tests share: calls with the answers that are due, and short ways to tell laws and rows. */
final class Due {
    static final int BYTES = 0, SHORTS = 1, INTS = 2, LONGS = 3, BOOLEANS = 4;

    private int wrong = 0;
    private int calls = 0;
    private int promise = 0;
    private String sentence = "";

    /** From here on, what is due is due by these words of the document. */
    void by(int ofPromise, String words) {
        promise = ofPromise;
        sentence = words;
    }

    /** An answer that must be as the words say that were named last. */
    void is(long got, long want) {
        calls++;
        if (got != want) {
            wrong++;
            System.out.println("promise " + promise + ", \"" + sentence + "\": answered " + got + ", due is " + want
                + ", at the last of" + Run.latestCalls());
        }
    }

    /** A call whose answer must be what is due by a promise. */
    void is(int ofPromise, String call, long got, long want) {
        calls++;
        if (got != want) {
            wrong++;
            System.out.println("promise " + ofPromise + ": " + call + " answered " + got + ", due is " + want);
        }
    }

    void end() {
        System.out.println(wrong == 0 ? calls + " answers are as due" : wrong + " answers are not as due");
        if (wrong != 0) {
            System.exit(1);
        }
    }

    static void feed(Run law, String text) {
        for (int i = 0; i < text.length(); i++) {
            law.feed(text.charAt(i));
        }
    }

    static int law(Run law, String text, int date, int says) {
        feed(law, text);
        return law.law(date, says);
    }

    static void row(Run law, int shelf, int sort, long... elements) {
        law.row(shelf, sort, elements.length);
        for (int i = 0; i < elements.length; i++) {
            law.put(shelf, i, elements[i]);
        }
    }

    interface InCase {
        boolean so(int x, int y, int z);
    }

    /** A law must speak just in the cases that are told, and in so many. */
    void speech(int ofPromise, Run law, int number, String text, InCase told) {
        int many = 0;
        for (int x = 0; x < 5; x++) {
            for (int y = 0; y < 5; y++) {
                for (int z = 0; z < 5; z++) {
                    int want = told.so(x, y, z) ? 1 : 0;
                    int kase = 100 * x + 10 * y + z;
                    many += want;
                    is(ofPromise, text + ": speaks(" + number + ", " + kase + ")", law.speaks(number, kase), want);
                }
            }
        }
        is(7, text + ": of(" + number + ", 5)", law.of(number, 5), many);
    }
}
