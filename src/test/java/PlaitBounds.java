/** Sentence by sentence: section 2 of the document, PASSES and the PLAIT. */
final class PlaitBounds {
    private final Check check;

    PlaitBounds(Check check) {
        this.check = check;
    }

    void run() {
        order();
        touching();
        overAndUnder();
        undoing();
        impossible();
        left();
        back();
        weave();
        shows();
    }

    private static int gapsOf(int dancers) {
        return dancers == 2 ? 1 : dancers;
    }

    private static boolean touch(int dancers, int gap, int other) {
        return gap == other || (gap + 1) % dancers == other || (other + 1) % dancers == gap;
    }

    private void plait(MaypoleGreen x, int... codes) {
        check.due("told(2)", x.told(2), codes.length);
        for (int k = 0; k < codes.length; k++) {
            check.due("plait(" + k + ", 0)", x.plait(k, 0), codes[k] / 2);
            check.due("plait(" + k + ", 1)", x.plait(k, 1), codes[k] % 2);
        }
    }

    private void order() {
        check.says("The PLAIT is a row of PASSES, in the order in which they were done.");
        MaypoleGreen x = Check.of(Check.ring(6));
        plait(x);
        Check.dance(x, 9, 1, 5);
        plait(x, 9, 1, 5);
        // the one in the middle, then the first is undone
        Check.dance(x, 0);
        plait(x, 9, 5);
        Check.dance(x, 8);
        plait(x, 5);
        Check.dance(x, 1);
        plait(x, 5, 1);
    }

    private void touching() {
        check.says("Two GAPS TOUCH, if they are one, or have a PLACE in common.");
        for (int n = 2; n <= 7; n++) {
            for (int gap = 0; gap < gapsOf(n); gap++) {
                for (int other = 0; other < gapsOf(n); other++) {
                    MaypoleGreen x = Check.of(Check.ring(n));
                    Check.dance(x, 2 * gap + 1, 2 * other + 1);
                    check.due("gaps " + gap + ", " + other + " of " + n, x.plait(0, 5), touch(n, gap, other) ? 0 : 1);
                }
            }
        }
        check.says("A PASS LIES OVER another one, if it was done behind it and their GAPS TOUCH; "
                + "FREE is a PASS over which none lies.");
        MaypoleGreen x = Check.of(Check.ring(7));
        Check.dance(x, 3, 7, 5, 13);
        int[] free = {0, 0, 1, 1};
        for (int k = 0; k < free.length; k++) {
            check.due("plait(" + k + ", 5)", x.plait(k, 5), free[k]);
        }
        check.due("told(8)", x.told(8), 1 << 2 | 1 << 6);
        x = Check.of(Check.ring(2));
        check.due("told(8) without a pass", x.told(8), 0);
        Check.dance(x, 1);
        check.due("one alone is free", x.plait(0, 5), 1);
    }

    private void overAndUnder() {
        check.says("PASS in a GAP, over or under: the two who stand there go each to the other's PLACE; "
                + "over: he who stood in the GAP's first PLACE (that of its number) goes over the other one, under: under him.");
        for (int n = 2; n <= 7; n++) {
            for (int code = 0; code < 2 * gapsOf(n); code++) {
                MaypoleGreen x = Check.of(Check.ring(n));
                int first = code / 2;
                int second = (first + 1) % n;
                check.due(x, "pass", x.pass(first, code % 2 == 1), 1, 0);
                check.due("place(" + first + ")", x.place(first), second);
                check.due("place(" + second + ")", x.place(second), first);
                check.due("who went over", x.plait(0, 2), code % 2 == 1 ? first : second);
                check.due("who went under", x.plait(0, 3), code % 2 == 1 ? second : first);
            }
        }
    }

    private void undoing() {
        check.says("If the latest PASS of the PLAIT in this GAP is FREE and the opposite one (over for under), "
                + "it is undone: it is gone from the PLAIT.");
        MaypoleGreen x = Check.of(Check.ring(5));
        Check.dance(x, 1, 0);
        plait(x);
        check.due("told(7)", x.told(7), 31);
        Check.dance(x, 0, 1);
        plait(x);
        Check.dance(x, 1, 1);
        plait(x, 1, 1);
        Check.dance(x, 0);
        plait(x, 1);
        // gap 2 does not touch gap 0, gap 4 does
        Check.dance(x, 5, 0);
        plait(x, 5);
        Check.dance(x, 1, 9, 0);
        plait(x, 5, 1, 9, 0);
        // the latest in gap 0 is under now, and free
        Check.dance(x, 1);
        plait(x, 5, 1, 9);
        // in gap 4 it is the opposite one that is free, gap 0 is so behind it
        Check.dance(x, 8, 0);
        plait(x, 5);
        // with three dancers all gaps touch; with two there is but one
        x = Check.of(Check.ring(3));
        Check.dance(x, 1, 5, 0);
        plait(x, 1, 5, 0);
        x = Check.of(Check.ring(2));
        Check.dance(x, 1, 1, 0, 0, 0, 0);
        plait(x, 0, 0);
    }

    private void impossible() {
        check.says("Else this one comes to its end: that can't be, if it has 40, or one of the two has no ribbon LEFT.");
        MaypoleGreen x = Check.of("long 40;" + Check.ring(5));
        for (int k = 1; k <= 40; k++) {
            check.due(x, "pass " + k, x.pass(k % 5, true), k, 0);
        }
        for (int gap = 0; gap < 5; gap++) {
            check.none(x, "a 41st in gap " + gap, x.pass(gap, true), 7);
        }
        // the last of the 40 is in gap 0 and free: its opposite undoes, and there is room for one
        check.none(x, "a 41st under in gap 1", x.pass(1, false), 7);
        check.due(x, "what undoes can be", x.pass(0, false), 39, 0);
        check.due(x, "a 40th", x.pass(1, false), 40, 0);
        // a and b have no ribbon left: either is enough, in whatever place of the gap he stands
        x = Check.of("long 2;" + Check.ring(4));
        Check.dance(x, 1, 1);
        check.none(x, "a, b", x.pass(0, true), 7);
        check.none(x, "b, c", x.pass(1, true), 7);
        check.none(x, "b, c under", x.pass(1, false), 7);
        check.none(x, "d, a", x.pass(3, true), 7);
        check.due(x, "c, d", x.pass(2, true), 3, 0);
        plait(x, 1, 1, 5);
        check.due(x, "what undoes needs no ribbon", x.pass(0, false), 2, 0);
        check.due("dancer(0, 2)", x.dancer(0, 2), 1);
    }

    private void left() {
        check.says("LEFT of a DANCER: LONG less the PASSES of the PLAIT in which he is (0 at least).");
        MaypoleGreen x = Check.of("long 3;" + Check.ring(3));
        int[] due = {2, 1, 0};
        for (int k = 0; k < due.length; k++) {
            check.due(x, "pass " + k, x.pass(0, true), k + 1, 0);
            check.due("dancer(0, 2)", x.dancer(0, 2), due[k]);
            check.due("dancer(1, 2)", x.dancer(1, 2), due[k]);
        }
        check.due("dancer(2, 2)", x.dancer(2, 2), 3);
        check.none(x, "no ribbon", x.pass(0, true), 7);
        int[] left = {0, 0, 0, 0, 1, 2};
        for (int much = 1; much < left.length; much++) {
            x.rule(4, much);
            check.due("dancer(0, 2) of " + much, x.dancer(0, 2), left[much]);
        }
        x.rule(4, 1);
        check.none(x, "below none", x.pass(0, true), 7);
        // c has a ribbon: he stands second in gap 1, first in gap 2
        check.none(x, "below none, the first alone", x.pass(1, true), 7);
        check.none(x, "below none, the second alone", x.pass(2, true), 7);
        check.due(x, "back()", x.back(), 2, 0);
        check.due("still none", x.dancer(0, 2), 0);
        x.rule(4, 40);
        check.due("dancer(0, 2)", x.dancer(0, 2), 38);
        check.due("dancer(2, 2)", x.dancer(2, 2), 40);
    }

    private void back() {
        check.says("BACK: the last PASS of the PLAIT is undone (the two go each to the other's PLACE).");
        MaypoleGreen x = Check.of(Check.ring(4));
        Check.dance(x, 5, 1, 7);
        check.due(x, "back()", x.back(), 2, 0);
        plait(x, 5, 1);
        int[] standing = {1, 0, 3, 2};
        for (int place = 0; place < standing.length; place++) {
            check.due("place(" + place + ")", x.place(place), standing[place]);
        }
        check.due("the ribbon is there again", x.dancer(1, 2), 11);
        check.due(x, "back()", x.back(), 1, 0);
        plait(x, 5);
        check.due(x, "back()", x.back(), 0, 0);
        check.due("told(7)", x.told(7), 15);
        check.none(x, "back()", x.back(), 7);
    }

    private void weave() {
        check.says("WEAVE: in the GAPS 0, 2, 4 .. (not in the last of these, if it TOUCHES GAP 0 and is not GAP 0) "
                + "a PASS over, one by one, then in the GAPS 1, 3, 5 .. one under; what can't be is left out.");
        int[][] codes = {{}, {}, {1}, {1, 2}, {1, 5, 2, 6}, {1, 5, 2, 6}, {1, 5, 9, 2, 6, 10}, {1, 5, 9, 2, 6, 10}};
        for (int n = 0; n <= 7; n++) {
            MaypoleGreen x = Check.of(Check.ring(n));
            check.due("weave() of " + n, x.weave(), n < 2 ? -1 : codes[n].length);
            plait(x, codes[n]);
        }
        // two dancers: an under in gap 0 is undone
        MaypoleGreen x = Check.of(Check.ring(2));
        Check.dance(x, 0);
        check.due(x, "weave()", x.weave(), 1, 0);
        plait(x);
        // a has no ribbon: gap 0 and what he would do behind it are left out, gap 2 is not
        x = Check.of("long 1;" + Check.ring(4));
        Check.dance(x, 1);
        check.due(x, "weave()", x.weave(), 1, 0);
        plait(x, 1, 5);
        check.none(x, "none can be", x.weave(), 7);
        plait(x, 1, 5);
        // 40 are reached in the midst of it
        x = Check.of("long 40;" + Check.ring(6));
        for (int k = 0; k < 38; k++) {
            x.pass(k % 2 * 2, true);
        }
        check.due(x, "weave()", x.weave(), 2, 0);
        check.due("told(2)", x.told(2), 40);
        check.due("plait(39, 0)", x.plait(39, 0), 2);
    }

    private void shows() {
        check.says("COLOUR that SHOWS in a GAP: that of him who went over, in the latest PASS of the PLAIT there "
                + "(as his COLOUR is now); none, without one.");
        MaypoleGreen x = Check.of(Check.ring(4));
        for (int gap = 0; gap < 4; gap++) {
            check.none(x, "shows(" + gap + ")", x.shows(gap), 6);
        }
        Check.dance(x, 1);
        check.due(x, "a over b", x.shows(0), 0, 0);
        Check.dance(x, 1);
        check.due(x, "b over a", x.shows(0), 1, 0);
        Check.dance(x, 0);
        check.due(x, "a over b again", x.shows(0), 0, 0);
        x.paint(0, 5);
        check.due(x, "a is painted", x.shows(0), 5, 0);
        x.trade(0, 3);
        check.due(x, "a trades with d", x.shows(0), 3, 0);
        check.none(x, "shows(1)", x.shows(1), 6);
        Check.dance(x, 0);
        check.none(x, "none, when it is undone", x.shows(0), 6);
        Check.dance(x, 6);
        check.due(x, "in the last gap a over d, by under", x.shows(3), 3, 0);
        x.back();
        check.none(x, "none behind back()", x.shows(3), 6);
    }
}
