/** Promises 9 to 18: feed, green, feasts, fault, told, dancer, place, plait, shows, passes. */
public final class TextsTest {
    private static final Check CHECK = new Check("TextsTest");

    public static void main(String[] args) {
        tape();
        greens();
        greenFaults();
        feastFaults();
        told();
        dancersAndPlaces();
        plait();
        gaps();
        CHECK.end();
    }

    private static void tape() {
        MaypoleGreen x = new MaypoleGreen();
        for (int k = 1; k <= 45; k++) {
            CHECK.due("feed", x.feed(0x20202020, 0x0a0a0a0a, 0x20202020, 0x20202020, 0x20202020), 20 * k);
        }
        CHECK.due("feed beyond 900", x.feed(0, 0, 0, 0, 0), -1);
        CHECK.none(x, "green(901)", x.green(901), 1);
        CHECK.none(x, "green(-1)", x.green(-1), 1);
        CHECK.none(x, "feasts(301)", x.feasts(301), 1);
        CHECK.none(x, "feasts(-1)", x.feasts(-1), 1);
        // the tape stays with STATUS 1
        CHECK.due("feed beyond 900", x.feed(0, 0, 0, 0, 0), -1);
        CHECK.due(x, "green(900) of blanks", x.green(900), 0, 0);
        CHECK.due("feed on an empty tape", x.feed(0, 0, 0, 0, 0), 20);
        CHECK.none(x, "feasts(21)", x.feasts(21), 1);
        CHECK.due(x, "feasts(0)", x.feasts(0), 0, 0);
        CHECK.due("feed on an empty tape", x.feed(0, 0, 0, 0, 0), 20);
        CHECK.none(x, "a byte 0 begins no token", x.feasts(1), 9);
        CHECK.due("feed behind a fault", x.feed(0, 0, 0, 0, 0), 20);
        // the highest byte of each int first: "odds 7;" is 6f 64 64 73 20 37 3b
        x = new MaypoleGreen();
        x.feed(0x6f646473, 0x20373b00, 0, 0, 0);
        CHECK.due(x, "green(7)", x.green(7), 0, 0);
        CHECK.due(x, "told(3)", x.told(3), 7, 0);
    }

    private static void greens() {
        MaypoleGreen x = new MaypoleGreen();
        String text = "long 40;odds16;dancer abcdefgh colour 0;\ndancer b\ncolour 5 ; pass 0 over ; pass 0000 over;odds";
        CHECK.none(x, "odds twice", Check.green(x, text), 9);
        text = "long 40;dancer abcdefgh colour 0;\ndancer b\ncolour 5 ; pass 0 over ; pass 0000 over;odds16;";
        CHECK.due(x, "a green", Check.green(x, text), 2, 0);
        CHECK.due("fault(0)", x.fault(0), 0);
        CHECK.due("fault(1)", x.fault(1), -1);
        CHECK.due("told(2)", x.told(2), 2);
        CHECK.due("told(3)", x.told(3), 16);
        CHECK.due("told(4)", x.told(4), 40);
        CHECK.due("told(6): the text's passes do not count", x.told(6), 0);
        // a fault: the old one stays, and so do its feasts
        Check.feasts(x, "back;");
        CHECK.none(x, "a fault", Check.green(x, "dancer"), 9);
        CHECK.due("told(0)", x.told(0), 2);
        CHECK.due(x, "live(0)", x.live(0), 1, 0);
        // a green that is taken: no feasts, the counts begin anew
        CHECK.due("told(6)", x.told(6), 1);
        CHECK.due(x, "green(0)", x.green(0), 0, 0);
        CHECK.none(x, "live(0)", x.live(0), 6);
        CHECK.due("told(3)", x.told(3), 2);
        CHECK.due("told(4)", x.told(4), 12);
        CHECK.due("told(6)", x.told(6), 0);
        CHECK.due("told(2)", x.told(2), 0);
        CHECK.due("seven dancers", Check.green(x, Check.ring(7)), 7);
        CHECK.due("told(1)", x.told(1), 7);
    }

    private static void greenFaults() {
        MaypoleGreen x = new MaypoleGreen();
        CHECK.due("fault(2)", x.fault(2), -1);
        CHECK.due("fault(-1)", x.fault(-1), -1);
        CHECK.greenFault("odds 12345;", 1, 5);
        CHECK.greenFault("12345", 1, 0);
        CHECK.greenFault("Odds 1;", 1, 0);
        CHECK.greenFault("odds\t1;", 1, 4);
        CHECK.greenFault("odds 1.", 1, 6);
        CHECK.greenFault("odds " + (char) 233, 1, 5);
        CHECK.greenFault("odds over;", 2, 5);
        CHECK.greenFault("odds", 2, 4);
        CHECK.greenFault("odds 1 ", 2, 7);
        CHECK.greenFault("odds 1 1;", 2, 7);
        CHECK.greenFault("odds ;", 2, 5);
        CHECK.greenFault("oddss 1;", 2, 0);
        CHECK.greenFault(";", 2, 0);
        CHECK.greenFault("odds 1;;", 2, 7);
        CHECK.greenFault("7", 2, 0);
        CHECK.greenFault("back;", 2, 0);
        CHECK.greenFault("dancer 1", 2, 7);
        CHECK.greenFault("dancer abcdefghi colour 1;", 2, 7);
        CHECK.greenFault("dancer over colour 1;", 2, 7);
        CHECK.greenFault("dancer stop colour 1;", 2, 7);
        CHECK.greenFault("dancer a colours 1;", 2, 9);
        CHECK.greenFault("dancer a colour 6;", 4, 16);
        CHECK.greenFault("dancer a colour 1;dancer a colour 1;", 3, 25);
        CHECK.greenFault("odds 17;", 4, 5);
        CHECK.greenFault("long 0;", 4, 5);
        CHECK.greenFault("long 41;", 4, 5);
        CHECK.greenFault("pass 0 over;", 4, 5);
        CHECK.greenFault("dancer a colour 1;pass 0 over;", 4, 23);
        CHECK.greenFault(Check.ring(2) + "pass 1 over;", 4, 41);
        CHECK.greenFault(Check.ring(3) + "pass 3 over;", 4, 59);
        CHECK.greenFault(Check.ring(2) + "pass 0 above;", 2, 43);
        CHECK.greenFault(Check.ring(2) + "pass 0 over", 2, 47);
        CHECK.greenFault("odds 1;odds 99", 5, 7);
        CHECK.greenFault("long 1;long", 5, 7);
        CHECK.greenFault(Check.ring(2) + "pass 0 over;long 3;", 5, 48);
        CHECK.greenFault(Check.ring(2) + "pass 0 over;dancer c colour 1;", 5, 48);
        CHECK.greenFault("long 1;" + Check.ring(2) + "pass 0 over;pass 0 over;", 5, 62);
        CHECK.greenFault(Check.ring(7) + "dancer over", 6, 126);
        CHECK.greenFault(Check.ring(7) + "pass 0 over;dancer h colour 1;", 5, 138);
        // odds may stand behind a pass, and what undoes needs no ribbon
        CHECK.due("a green", Check.green(x, "long 1;" + Check.ring(2) + "pass 0 over;pass 0 under;odds 3;"), 2);
        CHECK.due("told(2)", x.told(2), 0);
        // the first fault along the text
        CHECK.greenFault("odds 17; ?", 4, 5);
        CHECK.greenFault("odds ? 17", 1, 5);
        // a plait of 40 is full
        StringBuilder full = new StringBuilder("long 40;" + Check.ring(2));
        for (int k = 0; k < 40; k++) {
            full.append("pass 0 over;");
        }
        CHECK.due("40 passes", Check.green(x, full.toString()), 2);
        CHECK.due("told(2)", x.told(2), 40);
        CHECK.greenFault(full + "pass 0 over;", 5, full.length() + 7);
    }

    private static void feastFault(String text, int kind, int place) {
        MaypoleGreen x = Check.of(Check.ring(3));
        CHECK.feastFault(x, text, kind, place);
        CHECK.none(x, "live(0) behind " + text, x.live(0), 6);
    }

    private static void feastFaults() {
        feastFault("pass 0 over", 2, 11);
        feastFault("pass 3 over;", 4, 5);
        feastFault("pass 0 back;", 2, 7);
        feastFault("backs;", 2, 0);
        feastFault("odds 1;", 2, 0);
        feastFault("weave;", 2, 5);
        feastFault("weave 0;", 4, 6);
        feastFault("weave 10;", 4, 6);
        feastFault("paint z 1;", 3, 6);
        feastFault("paint end 1;", 2, 6);
        feastFault("paint abcdefghi 1;", 2, 6);
        feastFault("paint a 6;", 4, 8);
        feastFault("any 1;", 2, 4);
        feastFault("stop", 2, 4);
        feastFault("end;", 2, 0);
        feastFault("when home a;", 2, 12);
        feastFault("when home a;any;end", 2, 19);
        feastFault("when a;end;", 2, 5);
        feastFault("when home b2;end;", 2, 11);
        feastFault("when at a 3;end;", 4, 10);
        feastFault("when shows 3 0;end;", 4, 11);
        feastFault("when shows 2 7;end;", 4, 13);
        feastFault("when plait 3;end;", 2, 11);
        feastFault("when plait ; 3;end;", 2, 11);
        feastFault("when plait < 41;end;", 4, 13);
        feastFault("loop 0;end;", 4, 5);
        feastFault("loop 100;end;", 4, 5);
        feastFault("loop 1;loop 1;when home a;loop 1;end;end;end;end;", 7, 26);
        feastFault("loop 1;loop 1;loop 1;when home z;", 7, 21);
        feastFault("any; #", 1, 5);
        feastFault("any;".repeat(30) + "any;", 6, 120);
        feastFault("any;".repeat(30) + "zany;", 2, 120);
        feastFault("any;".repeat(27) + "loop 1;loop 1;loop 1;when", 6, 129);
        MaypoleGreen x = Check.of(Check.ring(3));
        CHECK.due(x, "30 steps", Check.feasts(x, "any;".repeat(27) + "loop 1;loop 1;loop 1;end;end;end;"), 30, 0);
        CHECK.due("fault(0)", x.fault(0), 0);
        CHECK.due(x, "steps", Check.feasts(x, "when plait=0;stop;end;when at c 2;end;when shows 2 6;back;end;"), 5, 0);
        // with a fault those ahead stay
        CHECK.feastFault(x, "any", 2, 3);
        CHECK.due(x, "live(0)", x.live(0), 2, 0);
        // exactly 300 bytes can be
        CHECK.due(x, "300 bytes", Check.feasts(x, "any;" + " ".repeat(291) + "back;"), 2, 0);
        // who came has no name
        x = new MaypoleGreen();
        x.come(1);
        CHECK.feastFault(x, "paint a 1;", 3, 6);
    }

    private static void told() {
        MaypoleGreen x = Check.of("odds 9;long 7;" + Check.ring(5));
        // rows: gap 0 is 1, gap 2 is 1, gap 1 lies over both, gap 4 over gap 0
        Check.dance(x, 1, 5, 2, 8);
        // places: 0 and 1 change, 2 and 3 change, then 1 and 2, then 4 and 0: nobody stands at home
        // over: a in gap 0, c in gap 2, under in gap 1: who stands in place 2 went over, that is d; in gap 4: b
        int[] due = {5, 5, 4, 9, 7, 2, 4, 0, 1 << 1 | 1 << 4, 4};
        for (int what = 0; what < due.length; what++) {
            CHECK.due(x, "told(" + what + ")", x.told(what), due[what], 0);
        }
        CHECK.none(x, "told(-1)", x.told(-1), 1);
        CHECK.none(x, "told(10)", x.told(10), 1);
        x.back();
        CHECK.due("told(6): back counts", x.told(6), 5);
        x.pass(1, true);
        CHECK.due("told(6): what undoes counts", x.told(6), 6);
        CHECK.due("told(2)", x.told(2), 2);
        CHECK.due("told(8)", x.told(8), 5);
        CHECK.due("told(7): e is home", x.told(7), 1 << 4);
        x.paint(2, 0);
        CHECK.due("told(9): each colour once", x.told(9), 1);
        CHECK.due("told(5)", x.told(5), 1);
        int done = x.weave();
        CHECK.due("told(6): weave counts each", x.told(6), 6 + done);
    }

    private static void dancersAndPlaces() {
        MaypoleGreen x = Check.of("long 3;" + Check.ring(4));
        Check.dance(x, 1, 1, 6);
        // gap 0 over: a over b; again: b over a; gap 3 under: between places 3 and 0, who stands in 0 goes over
        int[][] due = {{3, 0, 0, 2, 1}, {1, 1, 1, 1, 1}, {2, 2, 3, 0, 0}, {0, 3, 2, 0, 1}};
        for (int d = 0; d < 4; d++) {
            for (int what = 0; what < 5; what++) {
                CHECK.due(x, "dancer(" + d + ", " + what + ")", x.dancer(d, what), due[d][what], 0);
            }
            CHECK.due(x, "place", x.place(due[d][0]), d, 0);
        }
        CHECK.none(x, "dancer(-1, 0)", x.dancer(-1, 0), 1);
        CHECK.none(x, "dancer(4, 0)", x.dancer(4, 0), 1);
        CHECK.none(x, "dancer(0, 5)", x.dancer(0, 5), 1);
        CHECK.none(x, "dancer(0, -1)", x.dancer(0, -1), 1);
        CHECK.none(x, "place(-1)", x.place(-1), 1);
        CHECK.none(x, "place(4)", x.place(4), 1);
        x.rule(4, 1);
        CHECK.due("left is 0 at least", x.dancer(0, 2), 0);
    }

    private static void plait() {
        MaypoleGreen x = Check.of(Check.ring(5));
        Check.dance(x, 1, 5, 2, 8);
        int[][] due = {
            {0, 1, 0, 1, 1, 0, 3}, {2, 1, 2, 3, 1, 0, 2}, {1, 0, 3, 0, 2, 1, 1}, {4, 0, 1, 4, 2, 1, 1}};
        for (int k = 0; k < 4; k++) {
            for (int what = 0; what < 7; what++) {
                CHECK.due(x, "plait(" + k + ", " + what + ")", x.plait(k, what), due[k][what], 0);
            }
        }
        CHECK.none(x, "plait(4, 0)", x.plait(4, 0), 6);
        CHECK.none(x, "plait(-1, 0)", x.plait(-1, 0), 6);
        CHECK.none(x, "plait(0, 7)", x.plait(0, 7), 1);
        CHECK.none(x, "plait(9, -1)", x.plait(9, -1), 1);
        // what is undone in the middle leaves the order of the others
        x = Check.of(Check.ring(6));
        Check.dance(x, 1, 5, 9, 4);
        CHECK.due("told(2)", x.told(2), 2);
        CHECK.due("plait(0, 0)", x.plait(0, 0), 0);
        CHECK.due("plait(1, 0)", x.plait(1, 0), 4);
        // a long chain: each lies over the one ahead
        x = Check.of("long 40;" + Check.ring(3));
        for (int k = 0; k < 40; k++) {
            x.pass(k % 3, true);
        }
        CHECK.due("told(5)", x.told(5), 40);
        CHECK.due("plait(39, 4)", x.plait(39, 4), 40);
        CHECK.due("plait(0, 6)", x.plait(0, 6), 40);
    }

    private static void gaps() {
        MaypoleGreen x = Check.of(Check.ring(4));
        Check.dance(x, 1, 1, 6);
        CHECK.due(x, "shows(0)", x.shows(0), 1, 0);
        CHECK.none(x, "shows(1)", x.shows(1), 6);
        CHECK.due(x, "shows(3)", x.shows(3), 0, 0);
        CHECK.none(x, "shows(4)", x.shows(4), 1);
        CHECK.none(x, "shows(-1)", x.shows(-1), 1);
        CHECK.due(x, "passes(0)", x.passes(0), 2, 0);
        CHECK.due(x, "passes(1)", x.passes(1), 0, 0);
        CHECK.due(x, "passes(3)", x.passes(3), 1, 0);
        CHECK.none(x, "passes(4)", x.passes(4), 1);
        CHECK.none(x, "passes(-1)", x.passes(-1), 1);
        x.paint(1, 5);
        CHECK.due("shows(0): the colour is as it is now", x.shows(0), 5);
        x = Check.of(Check.ring(2));
        CHECK.none(x, "with two dancers there is one gap", x.shows(1), 1);
        CHECK.none(x, "shows(0)", x.shows(0), 6);
    }
}
