/** What the tests share: due answers, and texts that are fed to the tape. */
final class Check {
    private final String about;
    private int asked = 0;
    private int wrong = 0;

    Check(String about) {
        this.about = about;
    }

    void due(String call, long got, long want) {
        asked++;
        if (got != want) {
            wrong++;
            System.out.println(about + ": " + call + " answered " + got + ", due is " + want);
        }
    }

    void due(String call, boolean got, boolean want) {
        due(call, got ? 1 : 0, want ? 1 : 0);
    }

    /** An answer, and the STATUS behind it. */
    void due(MaypoleGreen x, String call, long got, long want, int status) {
        due(call, got, want);
        due(call + ": status()", x.status(), status);
    }

    void due(MaypoleGreen x, String call, boolean got, boolean want, int status) {
        due(call, got, want);
        due(call + ": status()", x.status(), status);
    }

    /** A call that must end with another STATUS than 0 and give NONE. */
    void none(MaypoleGreen x, String call, long got, int status) {
        due(x, call, got, MaypoleGreen.NONE, status);
    }

    void no(MaypoleGreen x, String call, boolean got, int status) {
        due(x, call, got, false, status);
    }

    void fraction(MaypoleGreen x, String call, boolean got, long top, long bottom) {
        due(x, call, got, true, 0);
        due(call + ": top()", x.top(), top);
        due(call + ": bottom()", x.bottom(), bottom);
    }

    void end() {
        System.out.println(about + ": " + asked + " answers, " + wrong + " wrong");
        if (wrong > 0) {
            System.exit(1);
        }
    }

    /** Feeds a text, filled up with 0s to whole twenties. */
    static void feed(MaypoleGreen x, String text) {
        for (int k = 0; k < text.length(); k += 20) {
            int[] fives = new int[5];
            for (int j = 0; j < 20; j++) {
                int sign = k + j < text.length() ? text.charAt(k + j) : 0;
                fives[j / 4] |= sign << 24 - 8 * (j % 4);
            }
            x.feed(fives[0], fives[1], fives[2], fives[3], fives[4]);
        }
    }

    static int green(MaypoleGreen x, String text) {
        feed(x, text);
        return x.green(text.length());
    }

    static int feasts(MaypoleGreen x, String text) {
        feed(x, text);
        return x.feasts(text.length());
    }

    /** A green of so many dancers a, b, c .. of the colours 0, 1, 2 .. (6 and 7 have 0, too). */
    static String ring(int dancers) {
        StringBuilder b = new StringBuilder();
        for (int d = 0; d < dancers; d++) {
            b.append("dancer ").append((char) ('a' + d)).append(" colour ").append(d % 6).append(";");
        }
        return b.toString();
    }

    static MaypoleGreen of(String green) {
        MaypoleGreen x = new MaypoleGreen();
        if (green(x, green) < 0) {
            System.out.println("a test's own green is faulty: " + green + " at " + x.fault(1));
            System.exit(1);
        }
        return x;
    }

    static void fill(MaypoleGreen x, int tray, int... numbers) {
        x.tray(tray, 0, numbers.length);
        for (int k = 0; k < numbers.length; k++) {
            x.write(tray, k, numbers[k]);
        }
    }

    /** Passes as numbers: the gap twice, 1 more if over. */
    static void dance(MaypoleGreen x, int... codes) {
        for (int code : codes) {
            x.pass(code / 2, code % 2 == 1);
        }
    }
}
