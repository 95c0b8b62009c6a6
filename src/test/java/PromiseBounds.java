/** Promise by promise: what each of them says of bounds, beside the Terms that it uses. */
final class PromiseBounds {
    private final Check check;

    PromiseBounds(Check check) {
        this.check = check;
    }

    void run() {
        newObject();
        statusAndFraction();
        trays();
        pour();
        tape();
        texts();
        fault();
        told();
        dancersAndPlaces();
        plait();
        gaps();
        pass();
        backAndWeave();
        colours();
        come();
        rule();
        undone();
        dances();
        seen();
        games();
        fractions();
        copyShows();
        live();
        mean();
        marks();
    }

    private void newObject() {
        check.says("The constants: `NONE = -1`: None.");
        check.due("NONE", MaypoleGreen.NONE, -1);
        check.says("A GREEN of nobody; ODDS 2, LONG 12; no PLAIT; no FEASTS, MARKS; TRAYS are MISSING; an empty tape; "
                + "the FRACTION 0 by 1; STATUS 0.");
        MaypoleGreen x = new MaypoleGreen();
        check.due("status()", x.status(), 0);
        check.due("top()", x.top(), 0);
        check.due("bottom()", x.bottom(), 1);
        check.due("status()", x.status(), 0);
        int[] told = {0, 0, 0, 2, 12, 0, 0, 0, 0, 0};
        for (int what = 0; what < told.length; what++) {
            check.due(x, "told(" + what + ")", x.told(what), told[what], 0);
        }
        check.none(x, "place(0)", x.place(0), 1);
        check.none(x, "live(0)", x.live(0), 6);
        check.none(x, "undo()", x.undo(), 6);
        for (int tray = 0; tray < 4; tray++) {
            check.none(x, "copyShows(" + tray + ")", x.copyShows(tray), 2);
        }
        check.none(x, "green(1)", x.green(1), 1);
        check.none(x, "feasts(1)", x.feasts(1), 1);
        check.due("feed", x.feed(0, 0, 0, 0, 0), 20);
    }

    private void statusAndFraction() {
        check.says("STATUS of the latest call that has one.");
        MaypoleGreen x = new MaypoleGreen();
        x.told(-1);
        check.due("status()", x.status(), 1);
        check.due("status() again", x.status(), 1);
        x.top();
        x.feed(0, 0, 0, 0, 0);
        x.fault(0);
        check.due("status()", x.status(), 1);
        x.told(0);
        check.due("status()", x.status(), 0);
        x.back();
        check.due("status()", x.status(), 7);
        check.says("The top of the FRACTION told latest.");
        check.fraction(x, "slipped(2, 1)", x.slipped(2, 1), 15, 64);
        x.slipped(13, 0);
        x.share(0);
        x.drift(0, 0, 0);
        x.mean(0, 1);
        check.due("top() behind refused ones", x.top(), 15);
        check.says("Its bottom, above 0.");
        check.due("bottom() behind refused ones", x.bottom(), 64);
        check.fraction(x, "slipped(0, 12)", x.slipped(0, 12), 0, 1);
    }

    private void trays() {
        check.says("A TRAY is a row of so many 0s (1).");
        MaypoleGreen x = new MaypoleGreen();
        check.range(x, "tray(v, 0, 1)", 0, 3, v -> Check.orNone(x.tray(v, 0, 1)));
        check.range(x, "tray(0, v, 1)", 0, 3, v -> Check.orNone(x.tray(0, v, 1)));
        check.range(x, "tray(0, 0, v)", 0, 60, v -> Check.orNone(x.tray(0, 0, v)));
        for (int place = 0; place < 60; place++) {
            x.write(0, place, 9);
        }
        x.tray(0, 1, 60);
        for (int place = 0; place < 60; place++) {
            check.due(x, "read(0, " + place + ")", x.read(0, place), 0, 0);
        }
        // what a longer row held does not come back
        x.write(0, 59, 9);
        x.tray(0, 1, 5);
        check.none(x, "read(0, 5)", x.read(0, 5), 3);
        x.tray(0, 1, 60);
        check.due(x, "read(0, 59)", x.read(0, 59), 0, 0);
        check.says("A number comes to a place of a TRAY, cut to its sort (1, 2, 3).");
        check.due(x, "write(0, 59, 65537)", x.write(0, 59, 65537), true, 0);
        check.due(x, "read(0, 59)", x.read(0, 59), 1, 0);
        check.due(x, "read(0, 58)", x.read(0, 58), 0, 0);
        check.due(x, "write(0, 0, min)", x.write(0, 0, Long.MIN_VALUE), true, 0);
        check.due(x, "read(0, 0)", x.read(0, 0), 0, 0);
        check.no(x, "write(0, 60, 1)", x.write(0, 60, 1), 3);
        check.no(x, "write(0, -1, 1)", x.write(0, -1, 1), 3);
        check.no(x, "write(0, min, 1)", x.write(0, Integer.MIN_VALUE, 1), 3);
        check.says("The number in a place of a TRAY; STATUS tells NONE from -1 (1, 2, 3).");
        x.write(0, 3, -1);
        check.due(x, "read(0, 3) of -1", x.read(0, 3), -1, 0);
        check.none(x, "read(0, 60)", x.read(0, 60), 3);
        check.none(x, "read(0, -1)", x.read(0, -1), 3);
        check.none(x, "read(0, max)", x.read(0, Integer.MAX_VALUE), 3);
    }

    private void row(MaypoleGreen x, int tray, long... due) {
        for (int k = 0; k < due.length; k++) {
            check.due(x, "read(" + tray + ", " + k + ")", x.read(tray, k), due[k], 0);
        }
    }

    private void pour() {
        check.says("So many numbers of a TRAY, from a place on, come to another one's (or its own) place on, as they were "
                + "(1: below 0, too; 2; 8; 3; asked in this order).");
        MaypoleGreen x = new MaypoleGreen();
        x.tray(0, 3, 4);
        x.tray(1, 3, 60);
        for (int k = 0; k < 4; k++) {
            x.write(0, k, Long.MIN_VALUE + k);
        }
        check.due(x, "all", x.pour(0, 0, 1, 56, 4), true, 0);
        check.due("read(1, 59)", x.read(1, 59), Long.MIN_VALUE + 3);
        check.due("read(1, 55)", x.read(1, 55), 0);
        check.no(x, "one place too far", x.pour(0, 0, 1, 57, 4), 3);
        check.no(x, "one too many", x.pour(0, 1, 1, 0, 4), 3);
        check.due(x, "none, behind the last", x.pour(0, 4, 1, 60, 0), true, 0);
        check.no(x, "none, from beyond", x.pour(0, 5, 1, 0, 0), 3);
        check.no(x, "none, to beyond", x.pour(0, 0, 1, 61, 0), 3);
        // its own places, both ways: as they were
        for (int k = 0; k < 4; k++) {
            x.write(0, k, k + 1);
        }
        check.due(x, "forwards", x.pour(0, 0, 0, 1, 3), true, 0);
        row(x, 0, 1, 1, 2, 3);
        check.due(x, "backwards", x.pour(0, 1, 0, 0, 3), true, 0);
        row(x, 0, 1, 2, 3, 3);
        check.due(x, "onto themselves", x.pour(0, 0, 0, 0, 4), true, 0);
        row(x, 0, 1, 2, 3, 3);
        check.no(x, "from a place below 0", x.pour(0, -1, 1, 0, 1), 1);
        check.no(x, "to a place below 0", x.pour(0, 0, 1, -1, 1), 1);
        check.no(x, "fewer than none", x.pour(0, 0, 1, 0, -1), 1);
        check.no(x, "far off", x.pour(0, 0, 1, 0, Integer.MIN_VALUE), 1);
        check.no(x, "far beyond", x.pour(0, 1, 1, 1, Integer.MAX_VALUE), 3);
        row(x, 0, 1, 2, 3, 3);
    }

    private void tape() {
        check.says("Twenty bytes come behind those on the tape, the highest of each int first: how many it has; "
                + "NONE if there would be more than 900.");
        MaypoleGreen x = new MaypoleGreen();
        // "odds 1", blanks, "6;long", blanks, "33;": over two feeds, so 16 stays in two
        check.due("feed", x.feed(0x6f646473, 0x20202020, 0x20202020, 0x20202020, 0x20202031), 20);
        check.due("feed", x.feed(0x363b6c6f, 0x6e673333, 0x3b202020, 0x20202020, 0x200a200a), 40);
        check.due(x, "green(40)", x.green(40), 0, 0);
        check.due("told(3)", x.told(3), 16);
        check.due("told(4)", x.told(4), 33);
        for (int k = 1; k <= 45; k++) {
            check.due("feed", x.feed(0x20202020, 0x20202020, 0x20202020, 0x20202020, 0x20202020), 20 * k);
        }
        check.due("a 46th", x.feed(0, 0, 0, 0, 0), -1);
        check.due("a 47th", x.feed(0, 0, 0, 0, 0), -1);
        check.due(x, "green(900): what was refused is not on it", x.green(900), 0, 0);
        // the highest bit of a byte is one of it
        x.feed(0xef000000, 0, 0, 0, 0);
        check.none(x, "green(1)", x.green(1), 9);
        check.due("fault(0)", x.fault(0), 1);
    }

    private void texts() {
        check.says("The first n bytes of the tape (which is empty then) are the GREEN: how many DANCERS "
                + "(1: n below 0, or more than the tape has, too; 9: the old one stays).");
        MaypoleGreen x = new MaypoleGreen();
        Check.feed(x, Check.ring(2));
        check.none(x, "green(-1)", x.green(-1), 1);
        check.none(x, "green(min)", x.green(Integer.MIN_VALUE), 1);
        check.none(x, "green(41)", x.green(41), 1);
        check.none(x, "green(max)", x.green(Integer.MAX_VALUE), 1);
        check.due(x, "green(18): one dancer of two", x.green(18), 1, 0);
        check.none(x, "green(1): the tape is empty", x.green(1), 1);
        check.due(x, "green(0)", x.green(0), 0, 0);
        Check.feed(x, Check.ring(2));
        check.none(x, "green(17)", x.green(17), 9);
        check.due("told(0): the old one stays", x.told(0), 0);
        check.none(x, "green(1): the tape is empty", x.green(1), 1);
        check.due(x, "all seven", Check.green(x, Check.ring(7)), 7, 0);
        // cut off in the midst of a NUMBER, of a WORD: what is behind n is not looked at
        cut(x, "odds 16;", 6, 2, 6);
        cut(x, "dancer ab colour 1;", 8, 2, 8);
        cut(x, "odds 12345;", 9, 4, 5);
        cut(x, " ".repeat(899) + "odds 1;", 900, 2, 899);
        check.says("Likewise the FEASTS: how many STEPS (1: above 300, too; 9).");
        Check.feed(x, "any;".repeat(20));
        check.none(x, "feasts(-1)", x.feasts(-1), 1);
        check.none(x, "feasts(81)", x.feasts(81), 1);
        check.due(x, "feasts(8): two of twenty", x.feasts(8), 2, 0);
        check.none(x, "feasts(1): the tape is empty", x.feasts(1), 1);
        Check.feed(x, " ".repeat(320));
        check.none(x, "feasts(301)", x.feasts(301), 1);
        check.due(x, "feasts(300)", x.feasts(300), 0, 0);
        Check.feasts(x, "any;any;");
        check.none(x, "a fault", Check.feasts(x, "any"), 9);
        check.due(x, "the old ones stay", x.live(1), 2, 0);
    }

    private void cut(MaypoleGreen x, String text, int n, int kind, int place) {
        Check.feed(x, text);
        check.none(x, "green(" + n + ") of " + text, x.green(n), 9);
        faultIs(x, kind, place);
    }

    private void fault() {
        check.says("Of the latest green() or feasts() with STATUS 0 or 9, what 0: the FAULT (0 without one), "
                + "1: its place (NONE without). NONE for others, and ahead of any.");
        MaypoleGreen x = new MaypoleGreen();
        faultIs(x, -1, -1);
        x.green(-1);
        faultIs(x, -1, -1);
        Check.green(x, "odds 17;");
        faultIs(x, 4, 5);
        x.green(1);
        x.feasts(-1);
        faultIs(x, 4, 5);
        Check.feasts(x, "end;");
        faultIs(x, 2, 0);
        x.green(0);
        faultIs(x, 0, -1);
        Check.feasts(x, "?");
        faultIs(x, 1, 0);
        Check.feasts(x, "back;");
        faultIs(x, 0, -1);
    }

    private void faultIs(MaypoleGreen x, int kind, int place) {
        check.due("fault(0)", x.fault(0), kind);
        check.due("fault(1)", x.fault(1), place);
        for (int what : new int[] {-1, 2, Integer.MIN_VALUE, Integer.MAX_VALUE}) {
            check.due("fault(" + what + ")", x.fault(what), -1);
        }
    }

    private void told() {
        check.says("How many DANCERS (what 0), GAPS (1), PASSES of the PLAIT (2); ODDS (3), LONG (4); the greatest ROW "
                + "(0 without a PLAIT) (5); how many PASSES were done, those that undid, by back(), weave(), live(), too, since "
                + "the GREEN was taken (those of its text not) (6); the sets of DANCERS who stand in their HOMES "
                + "(1 for DANCER 0 ..) (7), of GAPS with a FREE PASS (1 for GAP 0 ..) (8); how many COLOURS SHOW, "
                + "each once (9) (1).");
        MaypoleGreen x = Check.of("odds 0;long 40;" + Check.ring(7) + "pass 1 over;pass 1 under;pass 6 over;pass 3 over;");
        check.range(x, "told(what)", 0, 9, what -> x.told(what));
        // g and a have changed places, and d and e; gap 6 shows g's 0, gap 3 d's 3
        int[] due = {7, 7, 2, 0, 40, 1, 0, 1 << 1 | 1 << 2 | 1 << 5, 1 << 6 | 1 << 3, 2};
        for (int what = 0; what < due.length; what++) {
            check.due(x, "told(" + what + ")", x.told(what), due[what], 0);
        }
        x.pass(6, false);
        check.due("told(6): what undoes", x.told(6), 1);
        x.pass(6, true);
        x.back();
        check.due("told(6): and back()", x.told(6), 3);
        check.due("told(6): weave() does six", x.weave() + 3, x.told(6));
        int before = x.told(6);
        Check.feasts(x, "back;any;weave 1;back;back;");
        x.live(9);
        check.due("told(6): and live()", x.told(6), before + x.lived(1));
        before = x.told(6);
        x.pass(7, true);
        x.mean(0, 20);
        x.game(3);
        check.due("told(6): what is refused or only looked at is not", x.told(6), before);
        while (x.told(2) > 0) {
            x.back();
        }
        int[] home = {7, 7, 0, 0, 40, 0, x.told(6), 127, 0, 0};
        for (int what = 0; what < home.length; what++) {
            check.due(x, "told(" + what + ")", x.told(what), home[what], 0);
        }
        // all six colours show, then one by all
        MaypoleGreen y = Check.of(Check.ring(6) + "pass 0 over;pass 2 over;pass 4 over;");
        check.due("told(9)", y.told(9), 3);
        for (int d = 0; d < 6; d++) {
            y.paint(d, 5);
        }
        check.due("told(9): each once", y.told(9), 1);
    }

    private void dancersAndPlaces() {
        check.says("Of a DANCER, what 0: his PLACE, 1: COLOUR, 2: LEFT, 3: in how many PASSES of the PLAIT he went over, 4: under (1).");
        MaypoleGreen x = Check.of("long 2;" + Check.ring(3) + "pass 2 over;pass 2 over;");
        check.range(x, "dancer(v, 0)", 0, 2, v -> x.dancer(v, 0));
        check.range(x, "dancer(0, v)", 0, 4, v -> x.dancer(0, v));
        int[][] due = {{0, 0, 0, 1, 1}, {1, 1, 2, 0, 0}, {2, 2, 0, 1, 1}};
        for (int d = 0; d < 3; d++) {
            for (int what = 0; what < 5; what++) {
                check.due(x, "dancer(" + d + ", " + what + ")", x.dancer(d, what), due[d][what], 0);
            }
        }
        MaypoleGreen nobody = new MaypoleGreen();
        check.none(nobody, "dancer(0, 0)", nobody.dancer(0, 0), 1);
        check.says("Who stands in a PLACE (1).");
        check.range(x, "place(v)", 0, 2, v -> x.place(v));
        x.back();
        check.due(x, "place(0)", x.place(0), 2, 0);
        check.due(x, "place(1)", x.place(1), 1, 0);
        check.due(x, "place(2)", x.place(2), 0, 0);
        check.none(nobody, "place(0)", nobody.place(0), 1);
    }

    private void plait() {
        check.says("Of the k-th PASS of the PLAIT, from 0 on, what 0: its GAP, 1: 1 if it is over, else 0, 2: who went over, "
                + "3: who under, 4: its ROW, 5: 1 if it is FREE, else 0, 6: how many it HOLDS (1: what; 6: no such PASS).");
        MaypoleGreen x = Check.of(Check.ring(3) + "pass 2 under;pass 0 over;");
        check.range(x, "plait(0, what)", 0, 6, what -> x.plait(0, what));
        // a went over c to place 2; then c, in place 0, over b
        int[][] due = {{2, 0, 0, 2, 1, 0, 2}, {0, 1, 2, 1, 2, 1, 1}};
        for (int k = 0; k < 2; k++) {
            for (int what = 0; what < 7; what++) {
                check.due(x, "plait(" + k + ", " + what + ")", x.plait(k, what), due[k][what], 0);
            }
        }
        for (int what = 0; what < 7; what++) {
            for (int k : new int[] {-1, 2, Integer.MIN_VALUE, Integer.MAX_VALUE}) {
                check.none(x, "plait(" + k + ", " + what + ")", x.plait(k, what), 6);
            }
        }
        x.back();
        check.none(x, "plait(1, 0) behind back()", x.plait(1, 0), 6);
        x.back();
        check.none(x, "plait(0, 0) without a plait", x.plait(0, 0), 6);
        check.none(x, "plait(0, 7) without a plait", x.plait(0, 7), 1);
    }

    private void gaps() {
        check.says("COLOUR that SHOWS in a GAP (1; 6: none).");
        MaypoleGreen x = Check.of(Check.ring(3) + "pass 2 over;pass 2 over;");
        check.range(x, "shows(gap)", 0, 2, gap -> x.shows(gap));
        check.due(x, "shows(2)", x.shows(2), 0, 0);
        check.none(x, "shows(0)", x.shows(0), 6);
        check.says("How many PASSES of the PLAIT are in a GAP (1).");
        check.range(x, "passes(gap)", 0, 2, gap -> x.passes(gap));
        check.due(x, "passes(2)", x.passes(2), 2, 0);
        check.due(x, "passes(0)", x.passes(0), 0, 0);
        MaypoleGreen one = Check.of(Check.ring(1));
        check.none(one, "shows(0) of one", one.shows(0), 1);
        check.none(one, "passes(0) of one", one.passes(0), 1);
        MaypoleGreen two = Check.of("long 40;" + Check.ring(2) + "pass 0 over;".repeat(40));
        check.due(two, "passes(0)", two.passes(0), 40, 0);
        check.none(two, "passes(1) of two", two.passes(1), 1);
        check.none(two, "shows(1) of two", two.shows(1), 1);
    }

    private void pass() {
        check.says("PASS: how many the PLAIT has then (1; 7: it can't be).");
        for (int n = 0; n <= 7; n++) {
            int gaps = n < 2 ? 0 : n == 2 ? 1 : n;
            MaypoleGreen x = Check.of("long 1;" + Check.ring(n));
            check.none(x, "pass(-1, true) of " + n, x.pass(-1, true), 1);
            check.none(x, "pass(" + gaps + ", true) of " + n, x.pass(gaps, true), 1);
            check.none(x, "pass(max, false) of " + n, x.pass(Integer.MAX_VALUE, false), 1);
            check.none(x, "pass(min, false) of " + n, x.pass(Integer.MIN_VALUE, false), 1);
            for (int gap = 0; gap < gaps; gap++) {
                check.due(x, "pass(" + gap + ", true)", x.pass(gap, true), 1, 0);
                check.none(x, "once more", x.pass(gap, true), 7);
                check.due("told(2)", x.told(2), 1);
                check.due(x, "pass(" + gap + ", false)", x.pass(gap, false), 0, 0);
            }
        }
    }

    private void backAndWeave() {
        check.says("BACK: how many the PLAIT has then (7: it has none).");
        MaypoleGreen x = Check.of("long 40;" + Check.ring(2) + "pass 0 over;".repeat(40));
        for (int k = 39; k >= 0; k--) {
            check.due(x, "back()", x.back(), k, 0);
        }
        check.none(x, "back() without a plait", x.back(), 7);
        check.due("told(6): the refused one is not done", x.told(6), 40);
        check.says("WEAVE: how many PASSES were done (7: none could be).");
        int[] due = {-1, -1, 1, 2, 4, 4, 6, 6};
        for (int n = 0; n <= 7; n++) {
            MaypoleGreen y = Check.of(Check.ring(n));
            check.due(y, "weave() of " + n, y.weave(), due[n], n < 2 ? 7 : 0);
        }
        // those that undo are done, too
        MaypoleGreen y = Check.of("long 1;" + Check.ring(4) + "pass 0 under;pass 2 under;");
        check.due(y, "two undo, two come", y.weave(), 4, 0);
        check.due("told(2)", y.told(2), 2);
        MaypoleGreen full = Check.of("long 40;" + Check.ring(2) + "pass 0 over;".repeat(40));
        check.none(full, "weave() of a full plait", full.weave(), 7);
    }

    private void colours() {
        check.says("COLOUR of a DANCER from now on (0 to 5): what it was (1).");
        MaypoleGreen x = Check.of(Check.ring(3));
        check.range(x, "paint(v, 0)", 0, 2, v -> x.paint(v, 0));
        check.range(x, "paint(0, v)", 0, 5, v -> x.paint(0, v));
        check.due(x, "paint(0, 5)", x.paint(0, 5), 5, 0);
        check.due(x, "paint(0, 0)", x.paint(0, 0), 5, 0);
        check.due(x, "paint(0, 1)", x.paint(0, 1), 0, 0);
        check.says("Two DANCERS have each the other's COLOUR (1; 7: they are alike).");
        check.range(x, "trade(v, 1)", 0, 2, v -> Check.orNone(v == 1 || x.trade(v, 1)));
        check.range(x, "trade(1, v)", 0, 2, v -> Check.orNone(v == 1 || x.trade(1, v)));
        MaypoleGreen y = Check.of("dancer a colour 0;dancer b colour 5;dancer c colour 5;");
        check.due(y, "trade(0, 2)", y.trade(0, 2), true, 0);
        check.due("dancer(0, 1)", y.dancer(0, 1), 5);
        check.due("dancer(1, 1)", y.dancer(1, 1), 5);
        check.due("dancer(2, 1)", y.dancer(2, 1), 0);
        check.no(y, "trade(0, 1)", y.trade(0, 1), 7);
        for (int d = 0; d < 3; d++) {
            check.no(y, "trade of one with himself", y.trade(d, d), 1);
        }
        MaypoleGreen one = Check.of(Check.ring(1));
        check.no(one, "trade(0, 1) of one", one.trade(0, 1), 1);
    }

    private void come() {
        check.says("One DANCER more (a COLOUR 0 to 5): his number (1; 4: an eighth; 7: there is a PLAIT, somebody is not in his HOME).");
        MaypoleGreen x = new MaypoleGreen();
        for (int d = 0; d < 7; d++) {
            check.none(x, "come(-1)", x.come(-1), 1);
            check.none(x, "come(6)", x.come(6), 1);
            check.due(x, "come(" + (d < 6 ? d : 5) + ")", x.come(d < 6 ? d : 5), d, 0);
            check.due("told(0)", x.told(0), d + 1);
            check.due("told(1)", x.told(1), d == 0 ? 0 : d == 1 ? 1 : d + 1);
        }
        check.none(x, "an eighth", x.come(0), 4);
        check.due("told(0)", x.told(0), 7);
        // the new last gap is there, and the one who was last has a neighbour
        MaypoleGreen y = Check.of("long 3;" + Check.ring(4));
        y.pass(3, true);
        check.none(y, "there is a plait", y.come(0), 7);
        y.back();
        check.due(y, "come(0)", y.come(0), 4, 0);
        check.due(y, "his ribbon", y.dancer(4, 2), 3, 0);
        check.due(y, "pass in the last gap", y.pass(4, true), 1, 0);
        check.due(y, "who stands in place 0", y.place(0), 4, 0);
        // all are home again, but there is a plait
        MaypoleGreen z = Check.of(Check.ring(2) + "pass 0 over;pass 0 over;");
        check.due("told(7)", z.told(7), 3);
        check.none(z, "come(0)", z.come(0), 7);
    }

    private void rule() {
        check.says("ODDS (what 3: 0 to 16), LONG (4: 1 to 40) from now on (1).");
        MaypoleGreen x = Check.of(Check.ring(2));
        check.range(x, "rule(3, much)", 0, 16, much -> Check.orNone(x.rule(3, much)));
        check.due("told(3)", x.told(3), 16);
        check.range(x, "rule(4, much)", 1, 40, much -> Check.orNone(x.rule(4, much)));
        check.due("told(4)", x.told(4), 40);
        check.range(x, "rule(what, 5)", 3, 4, what -> Check.orNone(x.rule(what, 5)));
        x.rule(3, 0);
        check.due("told(3)", x.told(3), 0);
        x.rule(4, 1);
        check.due("told(4)", x.told(4), 1);
        x.pass(0, true);
        check.none(x, "from now on", x.pass(0, true), 7);
        x.rule(4, 2);
        check.due(x, "from now on", x.pass(0, true), 2, 0);
        x.rule(4, 1);
        check.due("what is in the plait stays", x.told(2), 2);
        check.due(x, "a new green: 2 and 12", x.green(0), 0, 0);
        check.due("told(3)", x.told(3), 2);
        check.due("told(4)", x.told(4), 12);
    }

    private void undone() {
        check.says("By how many PASSES a DANCER is BOUND (1).");
        MaypoleGreen x = Check.of(Check.ring(3) + "pass 0 over;");
        check.range(x, "bound(v)", 0, 2, v -> x.bound(v));
        check.due(x, "bound(0)", x.bound(0), 1, 0);
        check.due(x, "bound(2)", x.bound(2), 0, 0);
        MaypoleGreen full = Check.of("long 40;" + Check.ring(2) + "pass 0 over;".repeat(40));
        check.due(full, "bound(1)", full.bound(1), 40, 0);
        check.says("HOMEWARD: how many PASSES.");
        check.due(x, "homeward()", x.homeward(), 1, 0);
        check.due(full, "homeward()", full.homeward(), 0, 0);
        check.says("HOMEWARD: the k-th GAP, from 0 on (1: k below 0, too; 6: no such).");
        check.none(x, "homewardAt(-1)", x.homewardAt(-1), 1);
        check.none(x, "homewardAt(min)", x.homewardAt(Integer.MIN_VALUE), 1);
        check.due(x, "homewardAt(0)", x.homewardAt(0), 0, 0);
        check.none(x, "homewardAt(1)", x.homewardAt(1), 6);
        check.none(x, "homewardAt(max)", x.homewardAt(Integer.MAX_VALUE), 6);
        check.none(full, "homewardAt(0) of all at home", full.homewardAt(0), 6);
        check.none(full, "homewardAt(-1) of all at home", full.homewardAt(-1), 1);
        check.says("The fewest PASSES by which two DANCERS stand beside each other (with a GAP between them; whatever is LEFT) (1).");
        check.range(x, "meet(v, 1)", 0, 2, v -> v == 1 ? -1 : x.meet(v, 1));
        check.range(x, "meet(1, v)", 0, 2, v -> v == 1 ? -1 : x.meet(1, v));
        for (int n = 2; n <= 7; n++) {
            MaypoleGreen y = Check.of("long 1;" + Check.ring(n) + "pass 0 over;");
            for (int d = 0; d < n; d++) {
                check.none(y, "meet of one and himself", y.meet(d, d), 1);
                for (int other = 0; other < n; other++) {
                    int far = Math.abs(y.dancer(d, 0) - y.dancer(other, 0));
                    if (d != other) {
                        check.due(y, "meet of " + n, y.meet(d, other), Math.min(far, n - far) - 1, 0);
                    }
                }
            }
        }
    }

    private void dances() {
        MaypoleGreen x = Check.of("long 40;" + Check.ring(2) + "pass 0 over;".repeat(40));
        Check.fill(x, 0, 1, 1, 1);
        x.tray(1, 2, 40);
        for (int k = 0; k < 40; k++) {
            x.write(1, k, 1);
        }
        check.says("1 if the PLAIT of a DANCE is SAME to the one now, else 0 (1; 2; 3; 5).");
        check.due(x, "same(1, 40)", x.same(1, 40), 1, 0);
        check.due(x, "same(1, 39)", x.same(1, 39), 0, 0);
        check.due(x, "same(0, 3)", x.same(0, 3), 0, 0);
        check.none(x, "same(0, 4)", x.same(0, 4), 3);
        check.none(x, "same(1, 41)", x.same(1, 41), 1);
        check.says("APART (1; 2; 3; 5).");
        check.due(x, "apart(1, 40)", x.apart(1, 40), 0, 0);
        check.due(x, "apart(0, 3)", x.apart(0, 3), 37, 0);
        check.due(x, "apart(0, 0)", x.apart(0, 0), 40, 0);
        check.says("SLIPS: how many places (1; 2; 3; 5).");
        check.due(x, "slips(1, 40)", x.slips(1, 40), 0, 0);
        x.write(1, 39, 0);
        check.due(x, "slips(1, 40)", x.slips(1, 40), 1, 0);
        check.says("The k-th of these, from 0 on (1: k below 0, too; 2; 3; 5; 6: no such).");
        check.due(x, "slipAt(1, 40, 0)", x.slipAt(1, 40, 0), 39, 0);
        check.none(x, "slipAt(1, 40, 1)", x.slipAt(1, 40, 1), 6);
        check.none(x, "slipAt(1, 40, max)", x.slipAt(1, 40, Integer.MAX_VALUE), 6);
        check.none(x, "slipAt(1, 40, -1)", x.slipAt(1, 40, -1), 1);
        check.none(x, "slipAt(1, 40, min)", x.slipAt(1, 40, Integer.MIN_VALUE), 1);
        // a number in the TRAY that can't be, at the first and the last of those asked, and behind them
        x.write(1, 39, 2);
        check.none(x, "the last", x.same(1, 40), 5);
        check.due(x, "behind them", x.same(1, 39), 0, 0);
        x.write(1, 0, -1);
        check.none(x, "the first", x.apart(1, 1), 5);
        check.due(x, "none asked", x.apart(1, 0), 40, 0);
        // 256 is no 0 in a TRAY that holds it
        x.write(1, 0, 1L << 31);
        check.none(x, "far too much", x.slips(1, 1), 5);
    }

    private void seen() {
        MaypoleGreen x = Check.of(Check.ring(3));
        x.tray(0, 0, 41);
        x.tray(1, 0, 39);
        check.says("FITS: how many rows (1; 2; 3; 5).");
        check.due(x, "fits(0, 20, 1)", x.fits(0, 20, 1), 1, 0);
        check.none(x, "fits(0, 21, 1)", x.fits(0, 21, 1), 1);
        check.none(x, "fits(1, 20, 1)", x.fits(1, 20, 1), 3);
        check.due(x, "fits(1, 19, 1)", x.fits(1, 19, 1), 1, 0);
        MaypoleGreen seven = Check.of("long 40;" + Check.ring(7));
        seven.tray(0, 0, 0);
        check.due(seven, "the most rows", seven.fits(0, 0, 4), 38416, 0);
        check.says("The PASS at a place of the first of these, from 0 on (GAP twice, 1 more if it is over) "
                + "(1: place below 0, too; 2; 3; 5; 6: there is none, no such place).");
        check.due(x, "a over b", x.fitsAt(0, 1, 1, 0), 1, 0);
        check.none(x, "fitsAt(0, 1, 1, 1)", x.fitsAt(0, 1, 1, 1), 6);
        check.none(x, "fitsAt(0, 1, 1, max)", x.fitsAt(0, 1, 1, Integer.MAX_VALUE), 6);
        check.none(x, "fitsAt(0, 1, 1, -1)", x.fitsAt(0, 1, 1, -1), 1);
        check.none(x, "fitsAt(0, 1, 1, min)", x.fitsAt(0, 1, 1, Integer.MIN_VALUE), 1);
        check.none(x, "fitsAt(0, 1, 0, 0): there is none", x.fitsAt(0, 1, 0, 0), 6);
        for (int place = 0; place < 4; place++) {
            check.due(seven, "fitsAt(0, 0, 4, " + place + ")", seven.fitsAt(0, 0, 4, place), 0, 0);
        }
        check.none(seven, "fitsAt(0, 0, 4, 4)", seven.fitsAt(0, 0, 4, 4), 6);
        check.says("ASK (1; 2; 3; 5; 6: no row fits, behind all of them all GAPS SHOW alike).");
        check.none(x, "no row fits", x.ask(0, 1, 0), 6);
        check.none(x, "one row", x.ask(0, 1, 1), 6);
        check.none(x, "one row, of none", x.ask(0, 0, 0), 6);
        // two rows, over and under of two alike: other rows, but all gaps show alike behind them
        MaypoleGreen alike = Check.of("dancer a colour 3;dancer b colour 3;");
        alike.tray(0, 0, 0);
        check.due(alike, "two rows", alike.fits(0, 0, 1), 2, 0);
        check.none(alike, "all gaps show alike", alike.ask(0, 0, 1), 6);
        check.due(alike, "four rows, two of which show none", alike.ask(0, 0, 2), 0, 0);
        MaypoleGreen nobody = new MaypoleGreen();
        nobody.tray(0, 0, 0);
        check.none(nobody, "ask of nobody", nobody.ask(0, 0, 0), 6);
        check.due(nobody, "fits of nobody", nobody.fits(0, 0, 0), 1, 0);
        check.due(nobody, "fits of nobody by 1", nobody.fits(0, 0, 1), 0, 0);
    }

    private void games() {
        check.says("GAME (1).");
        MaypoleGreen x = Check.of(Check.ring(2));
        check.range(x, "game(n)", 0, 3, n -> x.game(n));
        check.due(x, "game(0)", x.game(0), 0, 0);
        check.due(x, "game(3)", x.game(3), 1, 0);
        check.says("MOVE (1: n 0, too; 6: none).");
        check.range(x, "moveOf(n)", 1, 3, n -> x.moveOf(n));
        check.none(x, "moveOf(0)", x.moveOf(0), 1);
        check.due(x, "moveOf(1)", x.moveOf(1), 0, 0);
        MaypoleGreen y = Check.of("long 1;" + Check.ring(2) + "pass 0 under;");
        check.none(y, "what undoes is worse than none", y.moveOf(1), 6);
        MaypoleGreen one = Check.of(Check.ring(1));
        check.none(one, "moveOf(3) of one", one.moveOf(3), 6);
        check.none(one, "moveOf(0) of one", one.moveOf(0), 1);
        // g alone has a colour of his own, e and f no ribbon left: the last PASS of all, gap 6 over
        MaypoleGreen last = Check.of("long 1;" + Check.ring(7) + "pass 4 over;");
        for (int d = 0; d < 7; d++) {
            last.paint(d, d == 6 ? 5 : 1);
        }
        check.due(last, "moveOf(1)", last.moveOf(1), 13, 0);
    }

    private void fractions() {
        check.says("The FRACTION is SLIPPED (n, k 0 to 12) (1).");
        MaypoleGreen x = Check.of(Check.ring(3));
        check.range(x, "slipped(v, 12)", 0, 12, v -> Check.orNone(x.slipped(v, 12)));
        check.range(x, "slipped(12, v)", 0, 12, v -> Check.orNone(x.slipped(12, v)));
        check.fraction(x, "slipped(12, 12)", x.slipped(12, 12), 1, 1L << 36);
        check.says("The FRACTION is DRIFT (1; 6: there are no GAPS, k above 0).");
        check.range(x, "drift(v, 0, 1)", 0, 2, v -> Check.orNone(x.drift(v, 0, 1)));
        check.range(x, "drift(0, v, 1)", 0, 2, v -> Check.orNone(x.drift(0, v, 1)));
        check.range(x, "drift(0, 0, v)", 0, 5, v -> Check.orNone(x.drift(0, 0, v)));
        MaypoleGreen one = Check.of(Check.ring(1));
        for (int k = 1; k <= 5; k++) {
            check.no(one, "drift(0, 0, " + k + ") of one", one.drift(0, 0, k), 6);
        }
        check.fraction(one, "drift(0, 0, 0) of one", one.drift(0, 0, 0), 1, 1);
        MaypoleGreen nobody = new MaypoleGreen();
        check.no(nobody, "drift(0, 0, 0) of nobody", nobody.drift(0, 0, 0), 1);
        check.says("The FRACTION is the part of the PLAIT's PASSES in which a DANCER went over (1; 6: there is no PLAIT).");
        check.no(x, "share(0) without a plait", x.share(0), 6);
        x.pass(0, true);
        check.range(x, "share(v)", 0, 2, v -> Check.orNone(x.share(v)));
        check.fraction(x, "share(0): all", x.share(0), 1, 1);
        check.fraction(x, "share(1): none", x.share(1), 0, 1);
        x.pass(0, true);
        check.fraction(x, "share(1): half", x.share(1), 1, 2);
        x.back();
        x.back();
        check.no(x, "share(1): the plait is gone", x.share(1), 6);
        check.due("bottom()", x.bottom(), 2);
    }

    private void copyShows() {
        check.says("COLOURS that SHOW in all GAPS (6: none) come to a TRAY, one by one: how many GAPS (1; 2; 3).");
        MaypoleGreen x = Check.of(Check.ring(3) + "pass 2 over;");
        x.tray(0, 3, 2);
        check.range(x, "copyShows(tray)", 0, 3, tray -> x.copyShows(tray));
        check.none(x, "one too few", x.copyShows(0), 3);
        row(x, 0, 0, 0);
        x.tray(0, 3, 3);
        check.due(x, "just enough", x.copyShows(0), 3, 0);
        row(x, 0, 6, 6, 2);
        x.tray(0, 0, 4);
        x.write(0, 3, 99);
        check.due(x, "one more", x.copyShows(0), 3, 0);
        row(x, 0, 6, 6, 2, 99);
        MaypoleGreen two = Check.of(Check.ring(2));
        two.tray(0, 0, 1);
        check.due(two, "copyShows of two", two.copyShows(0), 1, 0);
        row(two, 0, 6);
        MaypoleGreen one = Check.of(Check.ring(1));
        one.tray(0, 0, 0);
        check.due(one, "copyShows of one", one.copyShows(0), 0, 0);
        check.none(one, "a missing tray, though there are no gaps", one.copyShows(1), 2);
    }

    private void live() {
        check.says("LIVED: how many STEPS were done (1; 6: no FEASTS).");
        MaypoleGreen x = Check.of(Check.ring(2));
        check.none(x, "live(0)", x.live(0), 6);
        check.none(x, "live(-1)", x.live(-1), 1);
        check.none(x, "lived(0)", x.lived(0), 6);
        Check.feasts(x, "pass 0 over;pass 0 over;back;");
        check.range(x, "live(seed)", 0, 9999, seed -> x.live(seed));
        check.due(x, "live(7)", x.live(7), 3, 0);
        check.says("Of live() latest with STATUS 0, what 0: MISSED, 1: how many PASSES were done, those that undid, by back and weave, "
                + "too, 2: how many came to the PLAIT, 3: how many were undone, 4: 1 if a STEP was left to be done, else 0 "
                + "(1; 6: there was none).");
        int[] due = {0, 3, 2, 1, 0};
        check.range(x, "lived(what)", 0, 4, what -> x.lived(what));
        x.live(-1);
        x.live(10000);
        x.mean(0, 20);
        for (int what = 0; what < due.length; what++) {
            check.due(x, "lived(" + what + ")", x.lived(what), due[what], 0);
        }
        // behind a new GREEN, and behind undo(), it is still that live() that was the latest
        x.mark();
        x.green(0);
        x.live(0);
        check.due(x, "lived(1) behind green()", x.lived(1), 3, 0);
        x.undo();
        check.due(x, "lived(1) behind undo()", x.lived(1), 3, 0);
        Check.feasts(x, "loop 99;loop 99;back;weave 1;end;end;");
        check.due(x, "live(0)", x.live(0), 300, 0);
        check.due(x, "lived(4)", x.lived(4), 1, 0);
        Check.feasts(x, "weave 1;");
        x.live(0);
        int[] then = {0, 1, 1, 0, 0};
        for (int what = 0; what < then.length; what++) {
            check.due(x, "lived(" + what + ") of the latest alone", x.lived(what), then[what], 0);
        }
    }

    private void mean() {
        check.says("The FRACTION is the mean of how many PASSES the PLAIT has behind the FEASTS, by so many seeds (1 to 20) from one on "
                + "(1: the last above 9,999, too; 6: no FEASTS); all stays as it is.");
        MaypoleGreen x = Check.of(Check.ring(4) + "pass 0 over;");
        check.no(x, "mean(0, 1)", x.mean(0, 1), 6);
        check.no(x, "mean(0, 0)", x.mean(0, 0), 1);
        Check.feasts(x, "any;any;any;");
        check.range(x, "mean(seed, 1)", 0, 9999, seed -> Check.orNone(x.mean(seed, 1)));
        check.range(x, "mean(0, many)", 1, 20, many -> Check.orNone(x.mean(0, many)));
        for (int many = 1; many <= 20; many++) {
            check.due(x, "the last is 9999", x.mean(10000 - many, many), true, 0);
            check.no(x, "the last is 10000", x.mean(10001 - many, many), 1);
        }
        int sum = 0;
        for (int seed = 9990; seed <= 9999; seed++) {
            x.mark();
            x.live(seed);
            sum += x.told(2);
            x.undo();
        }
        x.mean(9990, 10);
        check.due("top() and bottom()", x.top() * 10, sum * x.bottom());
        // nothing but the FRACTION
        Check.feasts(x, "paint a 5;any;weave 3;back;");
        MaypoleGreen one = Twins.rich();
        MaypoleGreen other = Twins.rich();
        one.mean(9980, 20);
        one.slipped(3, 2);
        check.due("all stays as it is", Twins.answers(one, true).equals(Twins.answers(other, true)), true);
    }

    private void marks() {
        check.says("A MARK more: how many there are (4).");
        MaypoleGreen x = new MaypoleGreen();
        for (int k = 1; k <= 3; k++) {
            check.due(x, "mark()", x.mark(), k, 0);
            x.come(k);
        }
        check.none(x, "a fourth", x.mark(), 4);
        check.none(x, "a fifth", x.mark(), 4);
        check.says("All is taken back to the latest MARK: how many there are left (6).");
        for (int k = 2; k >= 0; k--) {
            check.due(x, "undo()", x.undo(), k, 0);
            check.due("told(0)", x.told(0), k);
        }
        check.none(x, "undo() without a mark", x.undo(), 6);
        check.due(x, "mark()", x.mark(), 1, 0);
        // a new GREEN leaves the marks
        x.come(5);
        x.mark();
        Check.green(x, Check.ring(7));
        check.due(x, "undo()", x.undo(), 1, 0);
        check.due("told(0)", x.told(0), 1);
        check.due(x, "undo()", x.undo(), 0, 0);
        check.due("told(0)", x.told(0), 0);
    }
}
