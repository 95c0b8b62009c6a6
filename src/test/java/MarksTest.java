/** Promises 46 and 47: mark, undo. */
public final class MarksTest {
    private static final Check CHECK = new Check("MarksTest");

    public static void main(String[] args) {
        counts();
        all();
        others();
        CHECK.end();
    }

    private static void counts() {
        MaypoleGreen x = new MaypoleGreen();
        CHECK.none(x, "undo()", x.undo(), 6);
        for (int k = 1; k <= 3; k++) {
            CHECK.due(x, "mark()", x.mark(), k, 0);
            x.come(k);
        }
        CHECK.none(x, "a fourth", x.mark(), 4);
        for (int k = 2; k >= 0; k--) {
            CHECK.due(x, "undo()", x.undo(), k, 0);
            CHECK.due("told(0)", x.told(0), k);
        }
        CHECK.none(x, "undo()", x.undo(), 6);
        CHECK.due(x, "mark()", x.mark(), 1, 0);
    }

    private static void all() {
        MaypoleGreen x = Check.of("odds 5;long 9;" + Check.ring(4) + "pass 0 over;pass 1 under;");
        Check.feasts(x, "any;back;any;");
        x.pass(3, true);
        x.pass(0, true);
        x.mark();
        x.rule(3, 1);
        x.rule(4, 20);
        x.paint(0, 5);
        x.weave();
        x.live(3);
        x.mark();
        Check.green(x, Check.ring(2) + "pass 0 over;");
        Check.feasts(x, "paint b 3;");
        x.live(1);
        CHECK.due("undo()", x.undo(), 1);
        CHECK.due("told(0)", x.told(0), 4);
        CHECK.due("told(3)", x.told(3), 1);
        CHECK.due("dancer(0, 1)", x.dancer(0, 1), 5);
        CHECK.due("undo()", x.undo(), 0);
        int[] told = {4, 4, 4, 5, 9, x.told(5), 2, x.told(7), x.told(8), x.told(9)};
        for (int what = 0; what < told.length; what++) {
            CHECK.due("told(" + what + ")", x.told(what), told[what]);
        }
        CHECK.due("dancer(0, 1)", x.dancer(0, 1), 0);
        int[] gaps = {0, 1, 3, 0};
        for (int k = 0; k < 4; k++) {
            CHECK.due("plait(" + k + ", 0)", x.plait(k, 0), gaps[k]);
        }
        CHECK.due("the feasts are back", x.live(0), 3);
        // the names are back, too
        CHECK.due("feasts by a name", Check.feasts(x, "paint d 1;"), 1);
        // a mark keeps that there are no feasts
        x.green(0);
        x.mark();
        Check.feasts(x, "any;");
        x.undo();
        CHECK.none(x, "live(0)", x.live(0), 6);
    }

    private static void others() {
        MaypoleGreen x = Check.of(Check.ring(3));
        x.mark();
        x.tray(0, 0, 1);
        x.write(0, 0, 7);
        Check.feasts(x, "back;");
        x.live(0);
        Check.feasts(x, "?");
        x.feed(0, 0, 0, 0, 0);
        x.slipped(1, 1);
        x.undo();
        CHECK.due("trays stay", x.read(0, 0), 7);
        CHECK.due("lived() stays", x.lived(0), 1);
        CHECK.due("fault() stays", x.fault(0), 1);
        CHECK.due("the tape stays", x.feed(0, 0, 0, 0, 0), 40);
        CHECK.due("the fraction stays", x.bottom(), 8);
    }
}
