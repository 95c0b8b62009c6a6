/** Promises 1 to 8: a new object, status, top, bottom, tray, write, read, pour. */
public final class TraysTest {
    private static final Check CHECK = new Check("TraysTest");

    public static void main(String[] args) {
        newObject();
        statusOfCalls();
        fractions();
        trays();
        writeAndRead();
        pours();
        CHECK.end();
    }

    private static void newObject() {
        MaypoleGreen x = new MaypoleGreen();
        CHECK.due("status()", x.status(), 0);
        CHECK.due("top()", x.top(), 0);
        CHECK.due("bottom()", x.bottom(), 1);
        CHECK.due("fault(0)", x.fault(0), -1);
        CHECK.due("fault(1)", x.fault(1), -1);
        int[] told = {0, 0, 0, 2, 12, 0, 0, 0, 0, 0};
        for (int what = 0; what < told.length; what++) {
            CHECK.due(x, "told(" + what + ")", x.told(what), told[what], 0);
        }
        for (int tray = 0; tray < 4; tray++) {
            CHECK.none(x, "read of a new object", x.read(tray, 0), 2);
        }
        CHECK.none(x, "live(0)", x.live(0), 6);
        CHECK.none(x, "undo()", x.undo(), 6);
        CHECK.none(x, "green(1) of an empty tape", x.green(1), 1);
        CHECK.due("NONE", MaypoleGreen.NONE, -1);
    }

    private static void statusOfCalls() {
        MaypoleGreen x = new MaypoleGreen();
        CHECK.none(x, "told(10)", x.told(10), 1);
        // these have no STATUS: that of the call ahead stays
        x.top();
        x.bottom();
        x.fault(0);
        x.feed(0, 0, 0, 0, 0);
        CHECK.due("status() behind calls without one", x.status(), 1);
        CHECK.due("status() twice", x.status(), 1);
        CHECK.due(x, "told(0)", x.told(0), 0, 0);
    }

    private static void fractions() {
        MaypoleGreen x = Check.of(Check.ring(3));
        CHECK.fraction(x, "drift(0, 1, 1)", x.drift(0, 1, 1), 1, 3);
        // another STATUS than 0 leaves the fraction as it was
        CHECK.no(x, "share(0)", x.share(0), 6);
        CHECK.due("top()", x.top(), 1);
        CHECK.due("bottom()", x.bottom(), 3);
        CHECK.no(x, "drift(0, 1, 6)", x.drift(0, 1, 6), 1);
        CHECK.due("bottom()", x.bottom(), 3);
        // and so does a call that tells none
        x.pass(0, true);
        CHECK.due("top()", x.top(), 1);
        CHECK.fraction(x, "share(2)", x.share(2), 0, 1);
    }

    private static void trays() {
        MaypoleGreen x = new MaypoleGreen();
        CHECK.no(x, "tray(-1, 0, 1)", x.tray(-1, 0, 1), 1);
        CHECK.no(x, "tray(4, 0, 1)", x.tray(4, 0, 1), 1);
        CHECK.no(x, "tray(0, -1, 1)", x.tray(0, -1, 1), 1);
        CHECK.no(x, "tray(0, 4, 1)", x.tray(0, 4, 1), 1);
        CHECK.no(x, "tray(0, 0, -1)", x.tray(0, 0, -1), 1);
        CHECK.no(x, "tray(0, 0, 61)", x.tray(0, 0, 61), 1);
        CHECK.no(x, "tray(0, 0, max)", x.tray(0, 0, Integer.MAX_VALUE), 1);
        CHECK.none(x, "read(0, 0) of a missing tray", x.read(0, 0), 2);
        CHECK.due(x, "tray(0, 3, 60)", x.tray(0, 3, 60), true, 0);
        CHECK.due(x, "write(0, 59, 7)", x.write(0, 59, 7), true, 0);
        CHECK.due(x, "read(0, 59)", x.read(0, 59), 7, 0);
        CHECK.due(x, "tray(0, 3, 60) again", x.tray(0, 3, 60), true, 0);
        CHECK.due(x, "read(0, 59)", x.read(0, 59), 0, 0);
        CHECK.due(x, "tray(0, 0, 0)", x.tray(0, 0, 0), true, 0);
        CHECK.none(x, "read(0, 0) of an empty tray", x.read(0, 0), 3);
    }

    private static void writeAndRead() {
        MaypoleGreen x = new MaypoleGreen();
        CHECK.no(x, "write(4, 0, 0)", x.write(4, 0, 0), 1);
        CHECK.no(x, "write(-1, 0, 0)", x.write(-1, 0, 0), 1);
        CHECK.no(x, "write(1, 0, 0)", x.write(1, 0, 0), 2);
        CHECK.none(x, "read(4, 0)", x.read(4, 0), 1);
        long v = 0x8123_4567_89ab_cdefL;
        long[] cut = {(byte) 0xef, (short) 0xcdef, 0x89abcdef, v};
        for (int sort = 0; sort < 4; sort++) {
            x.tray(sort, sort, 2);
            CHECK.due(x, "write of sort " + sort, x.write(sort, 1, v), true, 0);
            CHECK.due(x, "read of sort " + sort, x.read(sort, 1), cut[sort], 0);
            CHECK.due(x, "the other place of sort " + sort, x.read(sort, 0), 0, 0);
            x.write(sort, 0, -1);
            CHECK.due(x, "-1 in sort " + sort, x.read(sort, 0), -1, 0);
            CHECK.no(x, "write(.., 2, 0)", x.write(sort, 2, 0), 3);
            CHECK.no(x, "write(.., -1, 0)", x.write(sort, -1, 0), 3);
            CHECK.none(x, "read(.., 2)", x.read(sort, 2), 3);
            CHECK.none(x, "read(.., -1)", x.read(sort, -1), 3);
            CHECK.due(x, "read(.., 1)", x.read(sort, 1), cut[sort], 0);
        }
        x.tray(0, 0, 1);
        x.write(0, 0, 128);
        CHECK.due("128 in 8 bits", x.read(0, 0), -128);
        x.write(0, 0, 127);
        CHECK.due("127 in 8 bits", x.read(0, 0), 127);
        x.write(0, 0, 256);
        CHECK.due("256 in 8 bits", x.read(0, 0), 0);
    }

    private static void pours() {
        MaypoleGreen x = new MaypoleGreen();
        x.tray(0, 1, 5);
        x.tray(1, 1, 3);
        x.tray(2, 2, 5);
        for (int k = 0; k < 5; k++) {
            x.write(0, k, 10 + k);
        }
        CHECK.due(x, "pour(0, 2, 1, 0, 3)", x.pour(0, 2, 1, 0, 3), true, 0);
        row(x, 1, 12, 13, 14);
        CHECK.due(x, "pour onto itself, forwards", x.pour(0, 0, 0, 1, 4), true, 0);
        row(x, 0, 10, 10, 11, 12, 13);
        CHECK.due(x, "pour onto itself, backwards", x.pour(0, 1, 0, 0, 4), true, 0);
        row(x, 0, 10, 11, 12, 13, 13);
        CHECK.due(x, "pour of none at the ends", x.pour(0, 5, 1, 3, 0), true, 0);
        CHECK.no(x, "pour(4, ..)", x.pour(4, 0, 0, 0, 0), 1);
        CHECK.no(x, "pour to 4", x.pour(0, 0, 4, 0, 0), 1);
        CHECK.no(x, "pour from -1 on", x.pour(0, -1, 1, 0, 1), 1);
        CHECK.no(x, "pour to -1 on", x.pour(0, 0, 1, -1, 1), 1);
        CHECK.no(x, "pour of -1", x.pour(0, 0, 1, 0, -1), 1);
        CHECK.no(x, "a number that can't be ahead of a missing tray", x.pour(3, -1, 1, 0, 0), 1);
        CHECK.no(x, "pour from a missing tray", x.pour(3, 99, 1, 0, 1), 2);
        CHECK.no(x, "pour to a missing tray", x.pour(0, 99, 3, 0, 1), 2);
        CHECK.no(x, "unlike sorts ahead of places", x.pour(0, 99, 2, 0, 1), 8);
        CHECK.no(x, "too few to pour", x.pour(0, 3, 1, 0, 3), 3);
        CHECK.no(x, "too few to pour to", x.pour(0, 0, 1, 0, 4), 3);
        CHECK.no(x, "places beyond all", x.pour(0, Integer.MAX_VALUE, 1, 0, Integer.MAX_VALUE), 3);
        CHECK.no(x, "none from a place beyond", x.pour(0, 6, 1, 0, 0), 3);
        row(x, 0, 10, 11, 12, 13, 13);
        row(x, 1, 12, 13, 14);
    }

    private static void row(MaypoleGreen x, int tray, int... due) {
        for (int k = 0; k < due.length; k++) {
            CHECK.due("read(" + tray + ", " + k + ")", x.read(tray, k), due[k]);
        }
    }
}
