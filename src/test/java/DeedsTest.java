/** Promises 19 to 25: pass, back, weave, paint, trade, come, rule. */
public final class DeedsTest {
    private static final Check CHECK = new Check("DeedsTest");

    public static void main(String[] args) {
        passes();
        shortRibbons();
        fullPlait();
        backs();
        weaves();
        colours();
        comes();
        rules();
        CHECK.end();
    }

    private static void passes() {
        MaypoleGreen x = Check.of(Check.ring(4));
        CHECK.none(x, "pass(4, true)", x.pass(4, true), 1);
        CHECK.none(x, "pass(-1, true)", x.pass(-1, true), 1);
        CHECK.due(x, "pass(0, true)", x.pass(0, true), 1, 0);
        CHECK.due("place(0)", x.place(0), 1);
        CHECK.due("place(1)", x.place(1), 0);
        CHECK.due(x, "the same again", x.pass(0, true), 2, 0);
        CHECK.due(x, "the opposite undoes", x.pass(0, false), 1, 0);
        CHECK.due(x, "a pass over it", x.pass(1, true), 2, 0);
        CHECK.due(x, "now it is not free", x.pass(0, false), 3, 0);
        CHECK.due(x, "gap 2 touches gap 1", x.pass(2, true), 4, 0);
        CHECK.due(x, "gap 0 is free: gap 2 does not touch it", x.pass(0, true), 3, 0);
        CHECK.due("what is left", x.plait(2, 0), 2);
        // the last gap is between the last place and 0: its first place is the last one
        x = Check.of(Check.ring(3));
        x.pass(2, true);
        CHECK.due("plait(0, 2)", x.plait(0, 2), 2);
        CHECK.due("plait(0, 3)", x.plait(0, 3), 0);
        CHECK.due("place(0)", x.place(0), 2);
        CHECK.due("place(2)", x.place(2), 0);
        // with three dancers all gaps touch
        x.pass(0, true);
        CHECK.due("pass(2, false)", x.pass(2, false), 3);
        // one alone has no gap
        MaypoleGreen one = Check.of(Check.ring(1));
        CHECK.none(one, "pass of one", one.pass(0, true), 1);
    }

    private static void shortRibbons() {
        MaypoleGreen x = Check.of("long 2;" + Check.ring(3));
        Check.dance(x, 1, 1);
        CHECK.due("left", x.dancer(0, 2), 0);
        CHECK.none(x, "no ribbon left", x.pass(0, true), 7);
        CHECK.none(x, "nor with the third", x.pass(1, true), 7);
        CHECK.due("told(6): what can't be is not done", x.told(6), 2);
        CHECK.due(x, "to undo needs none", x.pass(0, false), 1, 0);
        CHECK.due("left", x.dancer(0, 2), 1);
        CHECK.due(x, "and it is there again", x.pass(1, true), 2, 0);
    }

    private static void fullPlait() {
        MaypoleGreen x = Check.of("long 40;" + Check.ring(4));
        for (int k = 0; k < 40; k++) {
            CHECK.due(x, "pass " + k, x.pass(k % 2 * 2, true), k + 1, 0);
        }
        CHECK.due("left", x.dancer(0, 2), 20);
        CHECK.none(x, "a 41st", x.pass(0, true), 7);
        CHECK.none(x, "a 41st elsewhere", x.pass(1, true), 7);
        CHECK.due(x, "one that undoes", x.pass(0, false), 39, 0);
        CHECK.due(x, "and there is room", x.pass(1, true), 40, 0);
    }

    private static void backs() {
        MaypoleGreen x = Check.of(Check.ring(4));
        CHECK.none(x, "back()", x.back(), 7);
        Check.dance(x, 1, 5, 2);
        CHECK.due(x, "back()", x.back(), 2, 0);
        CHECK.due("the last one is gone", x.plait(1, 0), 2);
        CHECK.due(x, "back()", x.back(), 1, 0);
        CHECK.due("place(2)", x.place(2), 2);
        CHECK.due(x, "back()", x.back(), 0, 0);
        CHECK.due("told(7)", x.told(7), 15);
        CHECK.due("told(6)", x.told(6), 6);
        CHECK.none(x, "back()", x.back(), 7);
        CHECK.due("told(6)", x.told(6), 6);
    }

    private static void weaves() {
        int[][] gaps = {{}, {}, {0}, {0, 1}, {0, 2, 1, 3}, {0, 2, 1, 3}, {0, 2, 4, 1, 3, 5}, {0, 2, 4, 1, 3, 5}};
        for (int n = 0; n <= 7; n++) {
            MaypoleGreen x = Check.of(Check.ring(n));
            if (n < 2) {
                CHECK.none(x, "weave() of " + n, x.weave(), 7);
                continue;
            }
            CHECK.due(x, "weave() of " + n, x.weave(), gaps[n].length, 0);
            CHECK.due("told(2)", x.told(2), gaps[n].length);
            for (int k = 0; k < gaps[n].length; k++) {
                CHECK.due("gap " + k + " of " + n, x.plait(k, 0), gaps[n][k]);
                CHECK.due("over " + k + " of " + n, x.plait(k, 1), gaps[n][k] % 2 == 0 ? 1 : 0);
            }
        }
        MaypoleGreen x = Check.of("long 1;" + Check.ring(4));
        CHECK.due(x, "what can't be is left out", x.weave(), 2, 0);
        CHECK.none(x, "none can be", x.weave(), 7);
        x = Check.of("long 1;" + Check.ring(4));
        x.pass(0, false);
        CHECK.due(x, "one undoes, one comes, for the others no ribbon is left", x.weave(), 2, 0);
        CHECK.due("told(2)", x.told(2), 1);
    }

    private static void colours() {
        MaypoleGreen x = Check.of(Check.ring(3));
        CHECK.due(x, "paint(0, 5)", x.paint(0, 5), 0, 0);
        CHECK.due(x, "paint(0, 5) again", x.paint(0, 5), 5, 0);
        CHECK.due("dancer(0, 1)", x.dancer(0, 1), 5);
        CHECK.none(x, "paint(3, 0)", x.paint(3, 0), 1);
        CHECK.none(x, "paint(-1, 0)", x.paint(-1, 0), 1);
        CHECK.none(x, "paint(0, 6)", x.paint(0, 6), 1);
        CHECK.none(x, "paint(0, -1)", x.paint(0, -1), 1);
        CHECK.due(x, "trade(0, 2)", x.trade(0, 2), true, 0);
        CHECK.due("dancer(0, 1)", x.dancer(0, 1), 2);
        CHECK.due("dancer(2, 1)", x.dancer(2, 1), 5);
        CHECK.no(x, "trade(0, 0)", x.trade(0, 0), 1);
        CHECK.no(x, "trade(0, 3)", x.trade(0, 3), 1);
        CHECK.no(x, "trade(-1, 0)", x.trade(-1, 0), 1);
        x.paint(1, 2);
        CHECK.no(x, "trade of two alike", x.trade(0, 1), 7);
    }

    private static void comes() {
        MaypoleGreen x = new MaypoleGreen();
        CHECK.none(x, "come(6)", x.come(6), 1);
        CHECK.none(x, "come(-1)", x.come(-1), 1);
        for (int d = 0; d < 7; d++) {
            CHECK.due(x, "come", x.come(5 - d % 6), d, 0);
            CHECK.due("his place", x.dancer(d, 0), d);
            CHECK.due("his colour", x.dancer(d, 1), 5 - d % 6);
            CHECK.due("his ribbon", x.dancer(d, 2), 12);
        }
        CHECK.none(x, "an eighth", x.come(0), 4);
        CHECK.none(x, "an eighth of no colour", x.come(7), 1);
        x.pass(0, true);
        CHECK.none(x, "an eighth, and there is a plait", x.come(0), 4);
        x = Check.of(Check.ring(2));
        x.pass(0, true);
        x.pass(0, true);
        CHECK.due("told(7): all are home", x.told(7), 3);
        CHECK.none(x, "there is a plait", x.come(0), 7);
        x.back();
        CHECK.none(x, "nobody is home", x.come(0), 7);
        x.back();
        CHECK.due(x, "come(0)", x.come(0), 2, 0);
        CHECK.due("told(1)", x.told(1), 3);
        CHECK.due("told(6): since the green was taken", x.told(6), 4);
    }

    private static void rules() {
        MaypoleGreen x = Check.of(Check.ring(2));
        CHECK.due(x, "rule(3, 0)", x.rule(3, 0), true, 0);
        CHECK.due("told(3)", x.told(3), 0);
        CHECK.due(x, "rule(3, 16)", x.rule(3, 16), true, 0);
        CHECK.due("told(3)", x.told(3), 16);
        CHECK.due(x, "rule(4, 1)", x.rule(4, 1), true, 0);
        CHECK.due("told(4)", x.told(4), 1);
        CHECK.due(x, "rule(4, 40)", x.rule(4, 40), true, 0);
        CHECK.due("told(4)", x.told(4), 40);
        CHECK.no(x, "rule(3, 17)", x.rule(3, 17), 1);
        CHECK.no(x, "rule(3, -1)", x.rule(3, -1), 1);
        CHECK.no(x, "rule(4, 0)", x.rule(4, 0), 1);
        CHECK.no(x, "rule(4, 41)", x.rule(4, 41), 1);
        CHECK.no(x, "rule(2, 5)", x.rule(2, 5), 1);
        CHECK.no(x, "rule(5, 5)", x.rule(5, 5), 1);
        CHECK.due("told(3)", x.told(3), 16);
        CHECK.due("told(4)", x.told(4), 40);
    }
}
