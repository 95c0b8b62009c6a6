/** Promises 30 to 33: same, apart, slips, slipAt. */
public final class DancesTest {
    private static final Check CHECK = new Check("DancesTest");

    public static void main(String[] args) {
        sames();
        aparts();
        slips();
        wrongOnes();
        CHECK.end();
    }

    private static void sames() {
        MaypoleGreen x = Check.of(Check.ring(5));
        Check.dance(x, 1, 5, 2, 8);
        Check.fill(x, 0, 5, 1, 8, 2, 4, 7, 99);
        CHECK.due(x, "those that do not touch in another order", x.same(0, 4), 1, 0);
        CHECK.due(x, "one less", x.same(0, 3), 0, 0);
        CHECK.due(x, "one more", x.same(0, 5), 0, 0);
        Check.fill(x, 0, 1, 5, 8, 8, 9, 2);
        CHECK.due(x, "what undoes does so", x.same(0, 6), 1, 0);
        Check.fill(x, 0, 1, 2, 5, 8);
        CHECK.due(x, "those that touch in another order", x.same(0, 4), 0, 0);
        Check.fill(x, 0, 1, 5, 3, 8);
        CHECK.due(x, "over for under", x.same(0, 4), 0, 0);
        // ribbons and colours do not matter, nor where all stand now
        x.rule(4, 1);
        x.paint(0, 5);
        Check.fill(x, 0, 1, 5, 2, 8);
        CHECK.due(x, "same", x.same(0, 4), 1, 0);
        x = Check.of(Check.ring(3));
        Check.fill(x, 0, 1, 0);
        CHECK.due(x, "a dance undone whole", x.same(0, 2), 1, 0);
        // opposite passes that are not free are no nothing
        Check.fill(x, 0, 1, 3, 0, 2);
        CHECK.due(x, "not undone", x.same(0, 4), 0, 0);
    }

    private static void aparts() {
        MaypoleGreen x = Check.of("long 1;" + Check.ring(4));
        x.pass(0, true);
        Check.fill(x, 0, 1, 1, 1, 0);
        int[] due = {1, 0, 1, 2, 1};
        for (int n = 0; n <= 4; n++) {
            CHECK.due(x, "apart(0, " + n + ")", x.apart(0, n), due[n], 0);
        }
        Check.fill(x, 0, 5, 1);
        CHECK.due("gap 2 only is lacking", x.apart(0, 2), 1);
        Check.fill(x, 0, 3, 1);
        CHECK.due("gap 0 is to be undone first", x.apart(0, 2), 3);
        // 40 and 40 others: 80 apart
        x = Check.of("long 40;" + Check.ring(2));
        for (int k = 0; k < 40; k++) {
            x.pass(0, true);
        }
        int[] dance = new int[40];
        Check.fill(x, 1, dance);
        CHECK.due(x, "80 apart", x.apart(1, 40), 80, 0);
        CHECK.due(x, "not same", x.same(1, 40), 0, 0);
        CHECK.due(x, "the plait stays", x.told(2), 40, 0);
    }

    private static void slips() {
        MaypoleGreen x = Check.of(Check.ring(5));
        Check.dance(x, 1, 5, 2, 8);
        Check.fill(x, 0, 1, 4, 2, 8);
        CHECK.due(x, "slips(0, 4)", x.slips(0, 4), 1, 0);
        CHECK.due(x, "slipAt(0, 4, 0)", x.slipAt(0, 4, 0), 1, 0);
        CHECK.none(x, "slipAt(0, 4, 1)", x.slipAt(0, 4, 1), 6);
        CHECK.none(x, "slipAt(0, 4, -1)", x.slipAt(0, 4, -1), 1);
        CHECK.due(x, "slips(0, 0)", x.slips(0, 0), 0, 0);
        CHECK.none(x, "slipAt(0, 0, 0)", x.slipAt(0, 0, 0), 6);
        // a dance that is right has no slip
        Check.fill(x, 0, 1, 5, 2, 8);
        CHECK.due(x, "slips of the same", x.slips(0, 4), 0, 0);
        // over thrice, danced over, under, over: the one in the middle is the slip
        x = Check.of(Check.ring(2));
        Check.dance(x, 1, 1, 1);
        Check.fill(x, 0, 1, 0, 1);
        CHECK.due(x, "slips(0, 3)", x.slips(0, 3), 1, 0);
        CHECK.due(x, "slipAt(0, 3, 0)", x.slipAt(0, 3, 0), 1, 0);
        // over once, danced over thrice: each of them, had it been under, would have undone another
        x = Check.of(Check.ring(2));
        x.pass(0, true);
        Check.fill(x, 0, 1, 1, 1);
        CHECK.due(x, "slips(0, 3)", x.slips(0, 3), 3, 0);
        for (int k = 0; k < 3; k++) {
            CHECK.due(x, "slipAt(0, 3, " + k + ")", x.slipAt(0, 3, k), k, 0);
        }
        CHECK.none(x, "slipAt(0, 3, 3)", x.slipAt(0, 3, 3), 6);
    }

    private static void wrongOnes() {
        MaypoleGreen x = Check.of(Check.ring(3));
        for (int n : new int[] {-1, 41, Integer.MIN_VALUE, Integer.MAX_VALUE}) {
            everyCall(x, 0, n, 1);
        }
        everyCall(x, -1, 0, 1);
        everyCall(x, 4, 0, 1);
        everyCall(x, 0, 0, 2);
        x.tray(0, 2, 3);
        everyCall(x, 0, 4, 3);
        x.write(0, 2, 6);
        everyCall(x, 0, 3, 5);
        x.write(0, 2, -1);
        everyCall(x, 0, 3, 5);
        x.write(0, 2, 0);
        x.write(0, 1, 6);
        everyCall(x, 0, 3, 5);
        x.write(0, 1, 5);
        CHECK.due(x, "5 is the last that can be", x.same(0, 3), 0, 0);
        x.write(0, 2, 6);
        CHECK.due(x, "numbers behind the dance do not matter", x.same(0, 2), 0, 0);
        // too few goes ahead of a number that can't be
        everyCall(x, 0, 4, 3);
        x.tray(1, 3, 1);
        x.write(1, 0, 1L << 32);
        everyCall(x, 1, 1, 5);
        CHECK.none(x, "k below 0 ahead of a missing tray", x.slipAt(2, 1, -1), 1);
        // no gaps: no pass can be
        MaypoleGreen none = new MaypoleGreen();
        none.tray(0, 0, 1);
        everyCall(none, 0, 1, 5);
        CHECK.due(none, "an empty dance", none.same(0, 0), 1, 0);
        // 40 can be, if the tray has them
        x.tray(3, 0, 40);
        CHECK.due(x, "40 times under", x.apart(3, 40), 40, 0);
        x.tray(3, 0, 39);
        everyCall(x, 3, 40, 3);
    }

    private static void everyCall(MaypoleGreen x, int tray, int n, int status) {
        CHECK.none(x, "same(" + tray + ", " + n + ")", x.same(tray, n), status);
        CHECK.none(x, "apart(" + tray + ", " + n + ")", x.apart(tray, n), status);
        CHECK.none(x, "slips(" + tray + ", " + n + ")", x.slips(tray, n), status);
        CHECK.none(x, "slipAt(" + tray + ", " + n + ", 0)", x.slipAt(tray, n, 0), status);
    }
}
