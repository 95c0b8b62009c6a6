/** Promises 34 to 36: fits, fitsAt, ask. */
public final class SeenTest {
    private static final Check CHECK = new Check("SeenTest");

    public static void main(String[] args) {
        rows();
        asked();
        bounded();
        wrongOnes();
        CHECK.end();
    }

    private static void rows() {
        MaypoleGreen x = Check.of(Check.ring(3));
        x.tray(0, 0, 0);
        int[] all = {1, 6, 36, 216, 1296};
        for (int k = 0; k <= 4; k++) {
            CHECK.due(x, "all rows of " + k, x.fits(0, 0, k), all[k], 0);
        }
        CHECK.due(x, "the first row", x.fitsAt(0, 0, 2, 1), 0, 0);
        CHECK.none(x, "fitsAt(0, 0, 2, 2)", x.fitsAt(0, 0, 2, 2), 6);
        CHECK.none(x, "fitsAt(0, 0, 0, 0)", x.fitsAt(0, 0, 0, 0), 6);
        CHECK.none(x, "fitsAt(0, 0, 2, -1)", x.fitsAt(0, 0, 2, -1), 1);
        // in gap 1 shows c (2): under by one pass, or where c stands elsewhere
        Check.fill(x, 0, 1, 2, 0, 6);
        CHECK.due(x, "fits(0, 2, 1)", x.fits(0, 2, 1), 1, 0);
        CHECK.due(x, "fitsAt(0, 2, 1, 0)", x.fitsAt(0, 2, 1, 0), 2, 0);
        CHECK.due(x, "fits by none", x.fits(0, 2, 0), 0, 0);
        CHECK.none(x, "fitsAt of none", x.fitsAt(0, 2, 0, 0), 6);
        // none shows behind a pass and its opposite: 6 rows; the first is under, over in gap 0
        Check.fill(x, 0, 0, 6, 1, 6, 2, 6);
        CHECK.due(x, "fits(0, 3, 2)", x.fits(0, 3, 2), 6, 0);
        CHECK.due(x, "fitsAt(0, 3, 2, 0)", x.fitsAt(0, 3, 2, 0), 0, 0);
        CHECK.due(x, "fitsAt(0, 3, 2, 1)", x.fitsAt(0, 3, 2, 1), 1, 0);
        CHECK.due(x, "fits(0, 3, 1)", x.fits(0, 3, 1), 0, 0);
        // one gap twice: alike is fine, unlike fits never
        Check.fill(x, 0, 1, 2, 1, 2);
        CHECK.due(x, "twice alike", x.fits(0, 2, 1), 1, 0);
        Check.fill(x, 0, 1, 2, 1, 1);
        CHECK.due(x, "twice unlike", x.fits(0, 2, 1), 0, 0);
        CHECK.none(x, "twice unlike: no row", x.fitsAt(0, 2, 1, 0), 6);
        CHECK.none(x, "twice unlike: nothing to ask", x.ask(0, 2, 1), 6);
        CHECK.due("nothing changes by it", x.told(2), 0);
        // what shows already shows behind rows that do not change it: b over a in gap 0
        x.pass(0, false);
        Check.fill(x, 0, 0, 1);
        CHECK.due(x, "fits by none", x.fits(0, 1, 0), 1, 0);
        CHECK.due(x, "a pass in another gap", x.fits(0, 1, 1), 4, 0);
        CHECK.due(x, "the first of them", x.fitsAt(0, 1, 1, 0), 2, 0);
        Check.fill(x, 0, 0, 0);
        CHECK.due(x, "a over b: b stands in place 0 now", x.fits(0, 1, 1), 1, 0);
        CHECK.due(x, "a over b", x.fitsAt(0, 1, 1, 0), 0, 0);
    }

    private static void asked() {
        MaypoleGreen x = Check.of(Check.ring(2));
        x.tray(0, 0, 0);
        CHECK.none(x, "one row parts nothing", x.ask(0, 0, 0), 6);
        CHECK.due(x, "under or over", x.ask(0, 0, 1), 0, 0);
        x.trade(0, 1);
        x.paint(1, 1);
        CHECK.none(x, "both of one colour", x.ask(0, 0, 1), 6);
        x = Check.of(Check.ring(4));
        x.tray(0, 0, 0);
        // each gap shows none in 6 of 8 rows: the first
        CHECK.due(x, "ask(0, 0, 1)", x.ask(0, 0, 1), 0, 0);
        // in gap 0 shows one thing: gap 1 is the first that parts
        Check.fill(x, 0, 0, 6);
        CHECK.due(x, "ask(0, 1, 1)", x.ask(0, 1, 1), 1, 0);
        // c and d alike, gap 2 shows 3 or none; gap 1 shows none, 1, 3; gap 3 none, 3, 0
        x.paint(2, 3);
        Check.fill(x, 0, 0, 6, 2, 3);
        CHECK.none(x, "two rows that show alike", x.ask(0, 2, 1), 6);
        CHECK.due("two rows", x.fits(0, 2, 1), 2);
        Check.fill(x, 0, 2, 5);
        CHECK.none(x, "no row fits", x.ask(0, 1, 1), 6);
        // ask wants the fewest of the most: gap 0 parts 1 and 1, others leave 2
        MaypoleGreen y = Check.of(Check.ring(3));
        Check.fill(y, 0, 1, 6, 2, 6);
        CHECK.due(y, "ask(0, 2, 1)", y.ask(0, 2, 1), 0, 0);
    }

    private static void bounded() {
        // ribbons of 1: behind one pass of two of three dancers only its opposite can be
        MaypoleGreen x = Check.of("long 1;" + Check.ring(3));
        x.tray(0, 0, 0);
        int[] all = {1, 6, 6, 36, 36};
        for (int k = 0; k <= 4; k++) {
            CHECK.due(x, "rows of " + k + " by short ribbons", x.fits(0, 0, k), all[k], 0);
        }
        // a full plait: only what undoes can be
        x = Check.of("long 40;" + Check.ring(3));
        for (int k = 0; k < 40; k++) {
            x.pass(k % 3, true);
        }
        x.tray(0, 0, 0);
        CHECK.due(x, "rows of 1 by a full plait", x.fits(0, 0, 1), 1, 0);
        CHECK.due(x, "the one that undoes", x.fitsAt(0, 0, 1, 0), 2 * (39 % 3), 0);
        CHECK.due(x, "rows of 2 by a full plait", x.fits(0, 0, 2), 6, 0);
        // the most rows of all
        x = Check.of("long 40;" + Check.ring(7));
        x.tray(0, 0, 0);
        CHECK.due(x, "14 to the fourth", x.fits(0, 0, 4), 38416, 0);
        CHECK.due(x, "all gaps part them alike", x.ask(0, 0, 4), 0, 0);
    }

    private static void wrongOnes() {
        MaypoleGreen x = Check.of(Check.ring(3));
        everyCall(x, -1, 0, 0, 1);
        everyCall(x, 4, 0, 0, 1);
        everyCall(x, 0, -1, 0, 1);
        everyCall(x, 0, 21, 0, 1);
        everyCall(x, 0, 0, -1, 1);
        everyCall(x, 0, 0, 5, 1);
        everyCall(x, 0, Integer.MAX_VALUE, 0, 1);
        everyCall(x, 0, 0, 0, 2);
        x.tray(0, 2, 3);
        everyCall(x, 0, 2, 1, 3);
        x.write(0, 0, 3);
        everyCall(x, 0, 1, 1, 5);
        x.write(0, 0, -1);
        everyCall(x, 0, 1, 1, 5);
        x.write(0, 0, 2);
        x.write(0, 1, 7);
        everyCall(x, 0, 1, 1, 5);
        x.write(0, 1, -1);
        everyCall(x, 0, 1, 1, 5);
        everyCall(x, 0, 2, 1, 3);
        CHECK.due(x, "numbers behind them do not matter", x.fits(0, 0, 1), 6, 0);
        CHECK.none(x, "place below 0 ahead of a missing tray", x.fitsAt(1, 0, 0, -1), 1);
        CHECK.none(x, "a tray's number ahead of a place too far", x.fitsAt(0, 1, 1, 9), 5);
        // each of the twos is looked at
        for (int two = 0; two < 4; two++) {
            x.tray(2, 0, 8);
            x.write(2, 2 * two, 3);
            everyCall(x, 2, 4, 1, 5);
            x.tray(2, 0, 8);
            x.write(2, 2 * two + 1, 7);
            everyCall(x, 2, 4, 1, 5);
        }
        // 20 twos can be
        x.tray(2, 3, 40);
        CHECK.due(x, "20 times gap 0, colour 0", x.fits(2, 20, 1), 1, 0);
        x.tray(2, 3, 39);
        everyCall(x, 2, 20, 1, 3);
    }

    private static void everyCall(MaypoleGreen x, int tray, int n, int k, int status) {
        String values = "(" + tray + ", " + n + ", " + k + ")";
        CHECK.none(x, "fits" + values, x.fits(tray, n, k), status);
        CHECK.none(x, "fitsAt" + values, x.fitsAt(tray, n, k, 0), status);
        CHECK.none(x, "ask" + values, x.ask(tray, n, k), status);
    }
}
