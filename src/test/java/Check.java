import java.util.function.IntToLongFunction;

/** What the tests share: due answers, sentences of the document, and texts that are fed to the tape. */
final class Check {
    private final String about;
    private final Document document;
    private String sentence = "";
    private int askedBefore = 0;
    private int asked = 0;
    private int wrong = 0;

    Check(String about) {
        this(about, null);
    }

    Check(String about, Document document) {
        this.about = about;
        this.document = document;
    }

    /** What is asked from here on holds this sentence of the document against the class. */
    void says(String quote) {
        closeSentence();
        sentence = quote;
        if (!document.quote(quote)) {
            complain("is not in the document");
        }
    }

    private void closeSentence() {
        if (!sentence.isEmpty() && asked == askedBefore) {
            complain("is quoted, but nothing is asked");
        }
        askedBefore = asked;
    }

    private void complain(String what) {
        wrong++;
        System.out.println(about + ": " + what + (sentence.isEmpty() ? "" : " [" + sentence + "]"));
    }

    /** Every sentence of the document must have been quoted. */
    void allIsQuoted() {
        closeSentence();
        sentence = "";
        for (String passage : document.unquoted()) {
            complain("no test quotes: " + passage);
        }
    }

    void due(String call, long got, long want) {
        asked++;
        if (got != want) {
            complain(call + " answered " + got + ", due is " + want);
        }
    }

    void due(String call, boolean got, boolean want) {
        due(call, got ? 1 : 0, want ? 1 : 0);
    }

    /** An answer, and the STATUS behind it. */
    void due(MaypoleGreen x, String call, long got, long want, int status) {
        due(call, got, want);
        due(call + ": status()", x.status(), status);
    }

    void due(MaypoleGreen x, String call, boolean got, boolean want, int status) {
        due(call, got, want);
        due(call + ": status()", x.status(), status);
    }

    /** A call that must end with another STATUS than 0 and give NONE. */
    void none(MaypoleGreen x, String call, long got, int status) {
        due(x, call, got, MaypoleGreen.NONE, status);
    }

    void no(MaypoleGreen x, String call, boolean got, int status) {
        due(x, call, got, false, status);
    }

    void fraction(MaypoleGreen x, String call, boolean got, long top, long bottom) {
        due(x, call, got, true, 0);
        due(call + ": top()", x.top(), top);
        due(call + ": bottom()", x.bottom(), bottom);
    }

    /** A number of a call: from least to most it can be, beside these and farthest off it has STATUS 1. */
    void range(MaypoleGreen x, String call, int least, int most, IntToLongFunction act) {
        for (int v : new int[] {Integer.MIN_VALUE, least - 1, most + 1, Integer.MAX_VALUE}) {
            none(x, call + " with " + v, act.applyAsLong(v), 1);
        }
        for (int v : new int[] {least, most}) {
            act.applyAsLong(v);
            due(call + " with " + v + ": STATUS 1", x.status() == 1, false);
        }
    }

    /** So that range() can look at calls that give a boolean, too. */
    static long orNone(boolean granted) {
        return granted ? 1 : MaypoleGreen.NONE;
    }

    private void faulty(MaypoleGreen x, String text, int got, int kind, int place) {
        none(x, text, got, 9);
        due(text + ": fault(0)", x.fault(0), kind);
        due(text + ": fault(1)", x.fault(1), place);
    }

    /** A GREEN with a FAULT, of a new object. */
    void greenFault(String text, int kind, int place) {
        MaypoleGreen x = new MaypoleGreen();
        faulty(x, text, green(x, text), kind, place);
    }

    /** A GREEN without a FAULT, of a new object that is handed back. */
    MaypoleGreen greenFine(String text, int dancers) {
        MaypoleGreen x = new MaypoleGreen();
        due(x, text, green(x, text), dancers, 0);
        due(text + ": fault(0)", x.fault(0), 0);
        due(text + ": fault(1)", x.fault(1), MaypoleGreen.NONE);
        return x;
    }

    void feastFault(MaypoleGreen x, String text, int kind, int place) {
        faulty(x, text, feasts(x, text), kind, place);
    }

    void feastFine(MaypoleGreen x, String text, int steps) {
        due(x, text, feasts(x, text), steps, 0);
        due(text + ": fault(0)", x.fault(0), 0);
        due(text + ": fault(1)", x.fault(1), MaypoleGreen.NONE);
    }

    void end() {
        System.out.println(about + ": " + asked + " answers, " + wrong + " wrong");
        if (wrong > 0) {
            System.exit(1);
        }
    }

    /** Feeds a text, filled up with 0s to whole twenties. */
    static void feed(MaypoleGreen x, String text) {
        for (int k = 0; k < text.length(); k += 20) {
            int[] fives = new int[5];
            for (int j = 0; j < 20; j++) {
                int sign = k + j < text.length() ? text.charAt(k + j) : 0;
                fives[j / 4] |= sign << 24 - 8 * (j % 4);
            }
            x.feed(fives[0], fives[1], fives[2], fives[3], fives[4]);
        }
    }

    static int green(MaypoleGreen x, String text) {
        feed(x, text);
        return x.green(text.length());
    }

    static int feasts(MaypoleGreen x, String text) {
        feed(x, text);
        return x.feasts(text.length());
    }

    /** A green of so many dancers a, b, c .. of the colours 0, 1, 2 .. (the seventh has 0, too). */
    static String ring(int dancers) {
        StringBuilder b = new StringBuilder();
        for (int d = 0; d < dancers; d++) {
            b.append("dancer ").append((char) ('a' + d)).append(" colour ").append(d % 6).append(";");
        }
        return b.toString();
    }

    static MaypoleGreen of(String green) {
        MaypoleGreen x = new MaypoleGreen();
        if (green(x, green) < 0) {
            System.out.println("a test's own green is faulty: " + green + " at " + x.fault(1));
            System.exit(1);
        }
        return x;
    }

    static void fill(MaypoleGreen x, int tray, int... numbers) {
        x.tray(tray, 0, numbers.length);
        for (int k = 0; k < numbers.length; k++) {
            x.write(tray, k, numbers[k]);
        }
    }

    /** Passes as numbers: the gap twice, 1 more if over. */
    static void dance(MaypoleGreen x, int... codes) {
        for (int code : codes) {
            x.pass(code / 2, code % 2 == 1);
        }
    }
}
