/** Promises 37 to 42: game, moveOf, slipped, drift, share, copyShows. */
public final class OddsTest {
    private static final Check CHECK = new Check("OddsTest");

    public static void main(String[] args) {
        games();
        slipped();
        drifts();
        shares();
        copies();
        CHECK.end();
    }

    private static void games() {
        MaypoleGreen x = Check.of(Check.ring(2));
        for (int n : new int[] {-1, 4, Integer.MIN_VALUE, Integer.MAX_VALUE}) {
            CHECK.none(x, "game(" + n + ")", x.game(n), 1);
            CHECK.none(x, "moveOf(" + n + ")", x.moveOf(n), 1);
        }
        CHECK.none(x, "moveOf(0)", x.moveOf(0), 1);
        // the caller has a pass done, the joker undoes it
        int[] due = {0, 1, 0, 1};
        for (int n = 0; n <= 3; n++) {
            CHECK.due(x, "game(" + n + ")", x.game(n), due[n], 0);
        }
        for (int n = 1; n <= 3; n++) {
            CHECK.due(x, "moveOf(" + n + "): a pass goes ahead of none", x.moveOf(n), 0, 0);
        }
        // one pass, no ribbon left: it could only be undone, so none is best
        x = Check.of("long 1;" + Check.ring(2));
        x.pass(0, true);
        CHECK.due(x, "game(1)", x.game(1), 1, 0);
        CHECK.none(x, "moveOf(1)", x.moveOf(1), 6);
        CHECK.due(x, "game(2)", x.game(2), 0, 0);
        CHECK.due(x, "moveOf(2): undone, the joker does none", x.moveOf(2), 0, 0);
        CHECK.due("nothing changes by it", x.told(2), 1);
        CHECK.due("nothing changes by it", x.told(6), 1);
        // a shows already: the caller wants another colour, by the first pass that has one
        x = Check.of(Check.ring(4));
        x.pass(0, true);
        CHECK.due("game(0)", x.game(0), 1);
        CHECK.due("game(1)", x.game(1), 2);
        // places b a c d; gap 0 under: undone; gap 0 over: b shows in a's stead; gap 1 under: c shows beside a
        CHECK.due("moveOf(1)", x.moveOf(1), 2);
        x.paint(2, 0);
        CHECK.due("moveOf(1): c looks like a, gap 2 under is d over c", x.moveOf(1), 4);
        x = new MaypoleGreen();
        CHECK.due(x, "game(3) of nobody", x.game(3), 0, 0);
        CHECK.none(x, "moveOf(3) of nobody", x.moveOf(3), 6);
    }

    private static void slipped() {
        MaypoleGreen x = new MaypoleGreen();
        CHECK.fraction(x, "slipped(0, 0)", x.slipped(0, 0), 1, 1);
        CHECK.fraction(x, "slipped(0, 1)", x.slipped(0, 1), 0, 1);
        CHECK.fraction(x, "slipped(1, 1)", x.slipped(1, 1), 1, 8);
        CHECK.fraction(x, "slipped(2, 1)", x.slipped(2, 1), 15, 64);
        CHECK.fraction(x, "slipped(2, 2)", x.slipped(2, 2), 1, 64);
        CHECK.fraction(x, "slipped(2, 3)", x.slipped(2, 3), 0, 1);
        CHECK.fraction(x, "slipped(12, 0)", x.slipped(12, 0), 1, 1);
        x.rule(3, 1);
        CHECK.fraction(x, "slipped(12, 12)", x.slipped(12, 12), 1, 1L << 48);
        CHECK.fraction(x, "slipped(12, 11)", x.slipped(12, 11), 181, 1L << 48);
        x.rule(3, 15);
        long most = 15L * 15 * 15 * 15 * 15 * 15 * 15 * 15 * 15 * 15 * 15 * 15;
        CHECK.fraction(x, "slipped(12, 12)", x.slipped(12, 12), most, 1L << 48);
        CHECK.fraction(x, "slipped(12, 1)", x.slipped(12, 1), (1L << 48) - 1, 1L << 48);
        x.rule(3, 0);
        CHECK.fraction(x, "slipped(5, 0)", x.slipped(5, 0), 1, 1);
        CHECK.fraction(x, "slipped(5, 1)", x.slipped(5, 1), 0, 1);
        x.rule(3, 16);
        CHECK.fraction(x, "slipped(12, 12)", x.slipped(12, 12), 1, 1);
        x.rule(3, 8);
        CHECK.fraction(x, "slipped(3, 2)", x.slipped(3, 2), 1, 2);
        for (int n : new int[] {-1, 13, Integer.MIN_VALUE, Integer.MAX_VALUE}) {
            CHECK.no(x, "slipped(" + n + ", 0)", x.slipped(n, 0), 1);
            CHECK.no(x, "slipped(0, " + n + ")", x.slipped(0, n), 1);
        }
        CHECK.due("top() stays", x.top(), 1);
        CHECK.due("bottom() stays", x.bottom(), 2);
    }

    private static void drifts() {
        MaypoleGreen x = Check.of(Check.ring(2));
        CHECK.fraction(x, "drift(0, 1, 1) of two", x.drift(0, 1, 1), 1, 1);
        CHECK.fraction(x, "drift(0, 0, 1) of two", x.drift(0, 0, 1), 0, 1);
        CHECK.fraction(x, "drift(0, 1, 5) of two", x.drift(0, 1, 5), 1, 1);
        x = Check.of(Check.ring(3));
        CHECK.fraction(x, "drift(0, 0, 0)", x.drift(0, 0, 0), 1, 1);
        CHECK.fraction(x, "drift(0, 1, 0)", x.drift(0, 1, 0), 0, 1);
        CHECK.fraction(x, "drift(0, 2, 1)", x.drift(0, 2, 1), 1, 3);
        x = Check.of("long 1;" + Check.ring(7));
        // five steps to the one side, or two more to the other than to the one: 1 + 1250 + 100 of 16807 ways
        CHECK.fraction(x, "drift(0, 5, 5)", x.drift(0, 5, 5), 193, 2401);
        x.pass(0, true);
        CHECK.fraction(x, "from where he stands, whatever is left", x.drift(0, 6, 5), 193, 2401);
        CHECK.fraction(x, "drift(2, 2, 1)", x.drift(2, 2, 1), 5, 7);
        for (int wrong : new int[] {-1, 7, Integer.MIN_VALUE, Integer.MAX_VALUE}) {
            CHECK.no(x, "drift(" + wrong + ", 0, 0)", x.drift(wrong, 0, 0), 1);
            CHECK.no(x, "drift(0, " + wrong + ", 0)", x.drift(0, wrong, 0), 1);
            CHECK.no(x, "drift(0, 0, " + wrong + ")", x.drift(0, 0, wrong), 1);
        }
        CHECK.no(x, "drift(0, 0, 6)", x.drift(0, 0, 6), 1);
        x = Check.of(Check.ring(1));
        CHECK.fraction(x, "drift(0, 0, 0) of one", x.drift(0, 0, 0), 1, 1);
        CHECK.no(x, "drift(0, 0, 1) of one", x.drift(0, 0, 1), 6);
        CHECK.no(x, "drift(0, 1, 1) of one", x.drift(0, 1, 1), 1);
    }

    private static void shares() {
        MaypoleGreen x = Check.of(Check.ring(4));
        CHECK.no(x, "share(0) without a plait", x.share(0), 6);
        CHECK.no(x, "share(4)", x.share(4), 1);
        CHECK.no(x, "share(-1)", x.share(-1), 1);
        Check.dance(x, 1, 3, 5, 4 + 2);
        // a over b, c, d; then in gap 3 who stands in place 0, b, goes over a
        CHECK.fraction(x, "share(0)", x.share(0), 3, 4);
        CHECK.fraction(x, "share(1)", x.share(1), 1, 4);
        CHECK.fraction(x, "share(2)", x.share(2), 0, 1);
        x.back();
        CHECK.fraction(x, "share(0)", x.share(0), 1, 1);
    }

    private static void copies() {
        MaypoleGreen x = Check.of(Check.ring(4));
        Check.dance(x, 1, 6);
        CHECK.none(x, "copyShows(4)", x.copyShows(4), 1);
        CHECK.none(x, "copyShows(-1)", x.copyShows(-1), 1);
        CHECK.none(x, "copyShows(0)", x.copyShows(0), 2);
        x.tray(0, 0, 3);
        x.write(0, 0, 77);
        CHECK.none(x, "copyShows(0) to three", x.copyShows(0), 3);
        CHECK.due("nothing is written", x.read(0, 0), 77);
        x.tray(0, 0, 5);
        x.write(0, 4, 77);
        x.paint(0, 3);
        CHECK.due(x, "copyShows(0)", x.copyShows(0), 4, 0);
        int[] due = {3, 6, 6, 1, 77};
        for (int k = 0; k < due.length; k++) {
            CHECK.due("read(0, " + k + ")", x.read(0, k), due[k]);
        }
        x = new MaypoleGreen();
        x.tray(3, 3, 0);
        CHECK.due(x, "copyShows of nobody", x.copyShows(3), 0, 0);
    }
}
