/** Sentence by sentence: section 4 of the document, FEASTS, MARKS, FRACTIONS. */
final class FeastsBounds {
    private final Check check;

    FeastsBounds(Check check) {
        this.check = check;
    }

    void run() {
        texts();
        steps();
        faults();
        numbers();
        any();
        missed();
        loops();
        most();
        draws();
        marks();
        fractions();
    }

    private static MaypoleGreen three() {
        return Check.of(Check.ring(3));
    }

    private void texts() {
        check.says("FEASTS are a TEXT of at most 300 bytes, of such TOKENS (none at first).");
        MaypoleGreen x = three();
        check.none(x, "live(0)", x.live(0), 6);
        check.no(x, "mean(0, 1)", x.mean(0, 1), 6);
        String text = " ".repeat(295) + "back;";
        check.feastFine(x, text, 1);
        check.due(x, "live(0)", x.live(0), 1, 0);
        Check.feed(x, text + "\n");
        check.none(x, "feasts(301)", x.feasts(301), 1);
        check.none(x, "feasts(320)", x.feasts(320), 1);
        check.due(x, "feasts(300): the tape has stayed", x.feasts(300), 1, 0);
        check.feastFault(x, "back\t;", 1, 4);
        check.feastFine(x, "back\n;\nweave1;", 2);
        check.feastFault(x, "weave 00001;", 1, 6);
        check.says("FEASTS: {STEP}.");
        check.feastFine(x, "", 0);
        check.due(x, "live(0) of no steps", x.live(0), 0, 0);
        check.feastFine(x, " \n", 0);
    }

    private void steps() {
        check.says("STEP: pass NUMBER HOW ; or back ; or weave NUMBER ; or paint NAME NUMBER ; or any ; "
                + "or when TEST ; {STEP} end ; or loop NUMBER ; {STEP} end ; or stop ;");
        along("pass 0 over ; back ; weave 2 ; paint a 1 ; any ; when home b ; end ; loop 3 ; any ; stop ; end ; stop ;", 10);
        check.says("TEST: home NAME, or at NAME NUMBER, or shows NUMBER NUMBER, or plait COMPARES NUMBER.");
        along("when home a ; end ; when at b 2 ; end ; when shows 1 6 ; end ; when plait < 3 ; end ;", 4);
        check.feastFault(three(), "when ;", 2, 5);
        check.feastFault(three(), "when any ;", 2, 5);
        check.feastFault(three(), "when end ;", 2, 5);
        check.says("COMPARES: < or > or =");
        for (char sign : "<>=".toCharArray()) {
            check.feastFine(three(), "when plait" + sign + "3;end;", 1);
        }
        check.feastFault(three(), "when plait;3;end;", 2, 10);
        check.feastFault(three(), "when plait 3;end;", 2, 11);
        check.feastFault(three(), "when plait<=3;end;", 2, 11);
        // no sign of a text ahead stands in for one
        MaypoleGreen x = new MaypoleGreen();
        check.feastFault(x, "when plait 3;end;", 2, 11);
        check.feastFault(x, "when plait<", 2, 11);
        check.feastFault(x, "when plait 3;end;", 2, 11);
    }

    /** Cut off behind each TOKEN, and with a WORD there that can stand nowhere in FEASTS. */
    private void along(String text, int steps) {
        int open = 0;
        String before = ";";
        for (int at = 0; at < text.length(); at = text.indexOf(' ', at) < 0 ? text.length() : text.indexOf(' ', at) + 1) {
            String begun = text.substring(0, at);
            check.feastFault(three(), begun + "colour", 2, at);
            if (open > 0 || !before.equals(";")) {
                check.feastFault(three(), begun, 2, at);
            } else {
                check.due("fault(0)", Check.feasts(three(), begun) >= 0, true);
            }
            before = text.substring(at).split(" ")[0];
            open += before.equals("when") || before.equals("loop") ? 1 : before.equals("end") ? -1 : 0;
        }
        check.feastFine(three(), text, steps);
    }

    private void faults() {
        check.says("FAULTS: 1, 2 as above (an end without a beginning; the text's end ahead of an end: 2).");
        check.feastFault(three(), "any;?", 1, 4);
        check.feastFault(three(), "weave 12345;", 1, 6);
        check.feastFault(three(), "end;", 2, 0);
        check.feastFault(three(), "loop 1;end;end;", 2, 11);
        check.feastFault(three(), "loop 1;", 2, 7);
        check.feastFault(three(), "loop 1;when home a;end; ", 2, 24);
        check.feastFault(three(), "loop 1;end", 2, 10);
        check.feastFine(three(), "loop 1;end;", 1);
        check.says("3 a NAME that is no DANCER.");
        check.feastFault(three(), "paint d 1;", 3, 6);
        check.feastFault(three(), "when home d;end;", 3, 10);
        check.feastFault(three(), "when at d 1;end;", 3, 8);
        check.feastFault(new MaypoleGreen(), "paint a 1;", 3, 6);
        check.says("4 a NUMBER that can't be (no such GAP, PLACE, too).");
        for (int n = 0; n <= 7; n++) {
            int gaps = n < 2 ? 0 : n == 2 ? 1 : n;
            check.feastFault(Check.of(Check.ring(n)), "pass " + gaps + " over;", 4, 5);
            check.feastFault(Check.of(Check.ring(n)), "when shows " + gaps + " 0;end;", 4, 11);
            if (n > 0) {
                check.feastFault(Check.of(Check.ring(n)), "when at a " + n + ";end;", 4, 10);
                check.feastFine(Check.of(Check.ring(n)), "when at a " + (n - 1) + ";end;", 1);
            }
            if (n > 1) {
                check.feastFine(Check.of(Check.ring(n)), "pass " + (gaps - 1) + " over;when shows " + (gaps - 1) + " 0;end;", 2);
            }
        }
        check.says("6 a 31st STEP (at its WORD; end is none).");
        check.feastFine(three(), "any;".repeat(30), 30);
        check.feastFault(three(), "any;".repeat(31), 6, 120);
        check.feastFault(three(), "any;".repeat(30) + "pass 9", 6, 120);
        check.feastFault(three(), "any;".repeat(30) + "end;", 2, 120);
        check.feastFine(three(), "loop 1;".repeat(3) + "any;".repeat(27) + "end;".repeat(3), 30);
        check.feastFault(three(), "loop 1;any;end;".repeat(15) + "stop;", 6, 225);
        check.says("7 a when, loop within three others (at its WORD).");
        for (String inner : new String[] {"when home a;", "loop 1;"}) {
            check.feastFine(three(), "loop 1;when home a;" + inner + "end;end;end;" + inner + "end;", 4);
            check.feastFault(three(), "loop 1;when home a;loop 1;" + inner + "end;end;end;end;", 7, 26);
            check.feastFault(three(), "loop 1;when home a;loop 1;end;" + "loop 1;" + inner, 7, 37);
        }
        check.feastFault(three(), "loop 1;loop 1;loop 1;loop 0;", 7, 21);
        check.feastFine(three(), "loop 1;loop 1;loop 1;any;weave 1;end;end;end;", 5);
    }

    private void numbers() {
        check.says("weave: so many times (1 to 9);");
        check.feastFault(three(), "weave 0;", 4, 6);
        check.feastFault(three(), "weave 10;", 4, 6);
        MaypoleGreen x = lives("long 40;" + Check.ring(2), "weave 1;weave 9;", 0, 2, 0, 10, 10, 0, 0);
        check.due("told(2)", x.told(2), 10);
        check.says("paint: his COLOUR from now on (0 to 5);");
        check.feastFault(three(), "paint a 6;", 4, 8);
        x = lives(Check.ring(3), "paint a 5;paint c 0;", 0, 2, 0, 0, 0, 0, 0);
        check.due("dancer(0, 1)", x.dancer(0, 1), 5);
        check.due("dancer(2, 1)", x.dancer(2, 1), 0);
        check.says("at: a PLACE;");
        when("at a 1", true);
        when("at a 0", false);
        when("at b 0", true);
        when("at c 2", true);
        when("home c", true);
        when("home a", false);
        check.says("shows: a GAP, a COLOUR (0 to 5, 6: none);");
        check.feastFault(three(), "when shows 0 7;end;", 4, 13);
        when("shows 0 0", true);
        when("shows 0 5", false);
        when("shows 0 6", false);
        when("shows 2 6", true);
        when("shows 2 0", false);
        check.says("plait: its length, 0 to 40;");
        check.feastFault(three(), "when plait<41;end;", 4, 11);
        when("plait=0", false);
        when("plait=1", true);
        when("plait<1", false);
        when("plait<2", true);
        when("plait>0", true);
        when("plait>1", false);
        when("plait<40", true);
        lives("long 40;" + Check.ring(2) + "pass 0 over;".repeat(40), "when plait=40;back;end;when plait<40;back;end;",
                0, 4, 0, 2, 0, 2, 0);
    }

    /** Lives through FEASTS on a GREEN; due are the STEPS, then all of lived(). */
    private MaypoleGreen lives(String green, String feasts, int seed, int... due) {
        MaypoleGreen x = Check.of(green);
        check.due(feasts + " at " + x.fault(1), Check.feasts(x, feasts) >= 0, true);
        check.due(x, feasts + ": live(" + seed + ")", x.live(seed), due[0], 0);
        for (int what = 0; what < 5; what++) {
            check.due(x, feasts + ": lived(" + what + ")", x.lived(what), due[what + 1], 0);
        }
        return x;
    }

    /** Behind a PASS over in GAP 0 of three: does the TEST hold? */
    private void when(String test, boolean holds) {
        int one = holds ? 1 : 0;
        lives(Check.ring(3) + "pass 0 over;", "when " + test + ";pass 1 over;end;", 0, 1 + one, 0, one, one, 0, 0);
    }

    private void any() {
        check.says("any: a GAP by a draw by how many there are, a draw by 2 (1: over), a draw by 16 (all three first): "
                + "a PASS so, the opposite one, if that is below ODDS.");
        for (int odds = 0; odds <= 16; odds++) {
            for (int n = 2; n <= 7; n++) {
                for (int seed = 0; seed <= 9999; seed += 1111) {
                    anyOnce(odds, n, seed);
                }
            }
        }
        // all three are drawn though the first any, over, can't be: the fifth draw makes the second one under
        int found = 0;
        for (int seed = 0; seed < 200; seed++) {
            int[] s = drawn(seed, 5);
            if (s[1] / 8 % 2 == 1 && s[2] / 8 % 2 == 1 && s[3] / 8 % 2 == 1 && s[4] / 8 % 2 == 0) {
                MaypoleGreen x = Check.of("odds 0;long 1;" + Check.ring(2) + "pass 0 over;");
                check.feastFine(x, "any;any;", 2);
                x.live(seed);
                check.due("lived(0)", x.lived(0), 1);
                check.due("lived(3)", x.lived(3), 1);
                check.due("told(2)", x.told(2), 0);
                found++;
            }
        }
        check.due("there are such seeds", found > 0, true);
    }

    /** The first so many values of s from a seed on. */
    private static int[] drawn(int seed, int many) {
        int[] all = new int[many];
        long s = seed;
        for (int k = 0; k < many; k++) {
            s = (s * 3269 + 11493) % 65536;
            all[k] = (int) s;
        }
        return all;
    }

    private void anyOnce(int odds, int dancers, int seed) {
        int[] s = drawn(seed, 3);
        int gaps = dancers == 2 ? 1 : dancers;
        int over = s[1] / 8 % 2;
        int due = s[2] / 8 % 16 < odds ? 1 - over : over;
        MaypoleGreen x = Check.of("odds " + odds + ";" + Check.ring(dancers));
        Check.feasts(x, "any;");
        x.live(seed);
        check.due("gap by " + seed, x.plait(0, 0), s[0] / 8 % gaps);
        check.due("over by " + seed + ", odds " + odds, x.plait(0, 1), due);
    }

    private void missed() {
        check.says("What can't be is MISSED: a pass (by any, too) that can't be, a back without a PLAIT, a weave by which no "
                + "PASS is done, a paint to what it is, any without GAPS (no draws).");
        lives("long 1;" + Check.ring(2), "pass 0 over;pass 0 over;pass 0 under;", 0, 3, 1, 2, 1, 1, 0);
        lives(Check.ring(2), "back;pass 0 over;back;back;", 0, 4, 2, 2, 1, 1, 0);
        lives("long 1;" + Check.ring(2), "weave 1;weave 9;", 0, 2, 1, 1, 1, 0, 0);
        lives("long 2;" + Check.ring(2), "weave 1;weave 9;weave 1;", 0, 3, 1, 2, 2, 0, 0);
        lives(Check.ring(3), "paint b 1;paint b 2;paint b 2;", 0, 3, 2, 0, 0, 0, 0);
        lives(Check.ring(1), "any;weave 1;back;paint a 0;", 0, 4, 4, 0, 0, 0, 0);
        lives("", "any;weave 9;back;", 9999, 3, 3, 0, 0, 0, 0);
        // a when that does not hold, a loop, a stop are not missed
        lives(Check.ring(1), "when plait>0;end;loop 2;end;stop;", 0, 3, 0, 0, 0, 0, 0);
        // seed 0 draws over first: it can't be, by short ribbons
        MaypoleGreen x = Check.of("odds 0;long 1;" + Check.ring(2) + "pass 0 over;");
        check.feastFine(x, "any;", 1);
        check.due("over is drawn", drawn(0, 2)[1] / 8 % 2, 1);
        check.due(x, "live(0)", x.live(0), 1, 0);
        check.due("lived(0)", x.lived(0), 1);
        check.due("told(2)", x.told(2), 1);
    }

    private void loops() {
        check.says("loop n (1 to 99): as often.");
        check.feastFault(three(), "loop 0;end;", 4, 5);
        check.feastFault(three(), "loop 100;end;", 4, 5);
        lives(Check.ring(2), "loop 1;pass 0 over;end;", 0, 2, 0, 1, 1, 0, 0);
        lives(Check.ring(2), "loop 99;back;end;", 0, 100, 99, 0, 0, 0, 0);
        lives(Check.ring(2), "loop 2;loop 3;loop 4;back;end;end;end;", 0, 33, 24, 0, 0, 0, 0);
        lives(Check.ring(2), "loop 99;pass 0 over;stop;end;pass 0 over;", 0, 3, 0, 1, 1, 0, 0);
        // three within each other are done to the innermost, by mean(), too
        MaypoleGreen x = lives(Check.ring(2), "when home a;when home b;when plait=0;pass 0 over;end;end;end;", 0, 4, 0, 1, 1, 0, 0);
        x.back();
        check.fraction(x, "mean(0, 1)", x.mean(0, 1), 1, 1);
        check.feastFine(x, "loop 2;loop 1;loop 3;pass 0 over;end;end;end;", 4);
        check.fraction(x, "mean(0, 1)", x.mean(0, 1), 6, 1);
        // nothing of the loops is left for the next FEASTS
        check.feastFine(x, "pass 0 over;pass 0 over;pass 0 over;pass 0 over;", 4);
        check.due(x, "live(0)", x.live(0), 4, 0);
        check.due("told(2)", x.told(2), 4);
    }

    private void most() {
        check.says("At most 300 STEPS (when, loop count as one each time they are come to from ahead; end does not).");
        String most = "loop 99;back;back;back;end;";
        lives(Check.ring(2), most + "back;", 0, 299, 298, 0, 0, 0, 0);
        lives(Check.ring(2), most + "back;back;", 0, 300, 299, 0, 0, 0, 0);
        lives(Check.ring(2), most + "back;back;pass 0 over;", 0, 300, 299, 0, 0, 0, 1);
        lives(Check.ring(2), most + "back;loop 9;end;", 0, 300, 298, 0, 0, 0, 0);
        lives(Check.ring(2), most + "back;loop 9;back;end;", 0, 300, 298, 0, 0, 0, 1);
        lives(Check.ring(2), most + "back;when plait>0;back;end;", 0, 300, 298, 0, 0, 0, 0);
        lives(Check.ring(2), most + "back;when plait=0;back;end;", 0, 300, 298, 0, 0, 0, 1);
        lives(Check.ring(2), most + "back;stop;", 0, 300, 298, 0, 0, 0, 0);
        lives(Check.ring(2), most + "back;back;stop;", 0, 300, 299, 0, 0, 0, 1);
        // a when, a loop within a loop count each time: 1 and 50 times 2, 1 and 74 times 2
        lives(Check.ring(2), "loop 50;when plait=0;loop 1;end;end;end;loop 74;when plait>0;end;loop 5;end;end;",
                0, 250, 0, 0, 0, 0, 0);
        lives(Check.ring(2), "loop 99;loop 99;end;loop 99;end;loop 99;end;end;loop 1;end;loop 2;end;", 0, 300, 0, 0, 0, 0, 0);
        lives(Check.ring(2), "loop 99;loop 99;loop 99;back;end;end;end;", 0, 300, 295, 0, 0, 0, 1);
    }

    private void draws() {
        check.says("LIVED by a seed (0 to 9,999): all is as it is then.");
        MaypoleGreen x = three();
        Check.feasts(x, "any;paint b 5;");
        check.range(x, "live(seed)", 0, 9999, seed -> x.live(seed));
        check.due("told(6)", x.told(6), 2);
        check.due("dancer(1, 1)", x.dancer(1, 1), 5);
        check.says("Draws: s, at first the seed, becomes what is left of s times 3,269 and 11,493 by 65,536; "
                + "the draw by n is the rest of s by 8, rounded down, by n.");
        // from 9999: 32698224 leaves 61296, then 200388117 leaves 44565, then 145694478 leaves 7950; by 8: 7662, 5570, 993
        MaypoleGreen y = Check.of("odds 2;" + Check.ring(7));
        Check.feasts(y, "any;");
        y.live(9999);
        check.due("7662 by 7", y.plait(0, 0), 4);
        check.due("5570 by 2 is under; 993 by 16 is 1, below 2", y.plait(0, 1), 1);
        y = Check.of("odds 1;" + Check.ring(7));
        Check.feasts(y, "any;");
        y.live(9999);
        check.due("1 is not below 1", y.plait(0, 1), 0);
        // each live() begins with its seed
        MaypoleGreen z = Check.of("odds 0;long 40;" + Check.ring(7));
        Check.feasts(z, "any;");
        z.live(9999);
        z.live(9999);
        check.due("the same gap", z.plait(1, 0), z.plait(0, 0));
        check.due("the same way", z.plait(1, 1), z.plait(0, 1));
    }

    private void marks() {
        check.says("MARKS, at most 3: the GREEN with all that became of it (told(6), too), the FEASTS are kept as they are; "
                + "all is taken back to the latest MARK, which is gone then.");
        MaypoleGreen x = Check.of("odds 7;long 5;" + Check.ring(3) + "pass 0 over;");
        Check.feasts(x, "any;back;");
        x.pass(1, true);
        check.due(x, "mark()", x.mark(), 1, 0);
        x.paint(0, 4);
        x.rule(3, 8);
        x.rule(4, 6);
        x.live(0);
        check.due(x, "mark()", x.mark(), 2, 0);
        Check.green(x, Check.ring(7));
        check.due(x, "mark()", x.mark(), 3, 0);
        x.weave();
        check.none(x, "a fourth", x.mark(), 4);
        check.due("weave() stays behind the refused mark", x.told(2), 6);
        check.due(x, "undo()", x.undo(), 2, 0);
        told(x, 7, 7, 0, 2, 12, 0, 0, 127, 0, 0);
        check.none(x, "no feasts there", x.live(0), 6);
        check.due(x, "undo()", x.undo(), 1, 0);
        told(x, 3, 3, 2, 8, 6, 2, 3, 0, 2, 1);
        check.due("dancer(0, 1)", x.dancer(0, 1), 4);
        check.due(x, "undo()", x.undo(), 0, 0);
        told(x, 3, 3, 2, 7, 5, 2, 1, 0, 2, 1);
        check.due("dancer(0, 1)", x.dancer(0, 1), 0);
        check.due(x, "the feasts are there", x.live(0), 2, 0);
        check.none(x, "undo()", x.undo(), 6);
        check.due(x, "and there is room for three again", x.mark(), 1, 0);
    }

    private void told(MaypoleGreen x, int... due) {
        for (int what = 0; what < due.length; what++) {
            check.due(x, "told(" + what + ")", x.told(what), due[what], 0);
        }
    }

    private void fractions() {
        check.says("FRACTIONS are told by top() and bottom() without a common divisor, the bottom above 0; 0 is 0 by 1.");
        MaypoleGreen x = Check.of("odds 8;" + Check.ring(6) + "pass 0 over;pass 2 over;pass 4 over;pass 0 under;pass 0 over;");
        check.fraction(x, "slipped(1, 1): 8 by 16", x.slipped(1, 1), 1, 2);
        check.fraction(x, "drift(0, 1, 1): 4 by 6", x.drift(0, 1, 1), 2, 3);
        check.fraction(x, "drift(0, 3, 1): 0 by 6", x.drift(0, 3, 1), 0, 1);
        check.fraction(x, "drift(0, 1, 0): 1 by 1", x.drift(0, 1, 0), 1, 1);
        check.fraction(x, "share(0): 1 by 3", x.share(0), 1, 3);
        check.fraction(x, "share(1): 0 by 3", x.share(1), 0, 1);
        Check.feasts(x, "any;any;any;back;back;back;");
        check.due(x, "mean(0, 20)", x.mean(0, 20), true, 0);
        long a = x.top();
        long b = x.bottom();
        check.due("a divisor of 20", b > 0 && 20 % b == 0, true);
        check.due("no common divisor", java.math.BigInteger.valueOf(a).gcd(java.math.BigInteger.valueOf(b)).intValue(), 1);
        Check.feasts(x, "loop 9;back;end;");
        check.fraction(x, "mean of none", x.mean(0, 20), 0, 1);
    }
}
