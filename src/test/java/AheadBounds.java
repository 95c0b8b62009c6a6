/** Sentence by sentence: section 3 of the document, all that is asked of what could be. */
final class AheadBounds {
    private final Check check;

    AheadBounds(Check check) {
        this.check = check;
    }

    void run() {
        nothingChanges();
        rows();
        bound();
        homeward();
        dances();
        apart();
        slips();
        fits();
        ask();
        game();
        move();
        odds();
        drift();
    }

    private void nothingChanges() {
        check.says("All ahead is as all is now; nothing changes by it.");
        Twins.Deed[] deeds = {
            x -> x.bound(0), x -> x.homeward(), x -> x.homewardAt(0), x -> x.meet(0, 2), x -> x.same(0, 3),
            x -> x.apart(0, 3), x -> x.slips(0, 3), x -> x.slipAt(0, 3, 0), x -> x.fits(0, 0, 3),
            x -> x.fitsAt(0, 0, 3, 2), x -> x.ask(0, 0, 2), x -> x.game(3), x -> x.moveOf(3),
            x -> x.plait(0, 4), x -> x.plait(0, 6), x -> x.told(5), x -> x.told(8)
        };
        for (int k = 0; k < deeds.length; k++) {
            check.due("question " + k + " changes nothing", Twins.changesNothing(x -> 0, deeds[k], true), true);
        }
        // the FRACTION alone is another one
        MaypoleGreen one = Twins.rich();
        MaypoleGreen other = Twins.rich();
        one.drift(0, 0, 5);
        one.slipped(12, 1);
        one.share(0);
        one.slipped(3, 2);
        check.due("odds change nothing else", Twins.answers(one, true).equals(Twins.answers(other, true)), true);
    }

    private void ask(MaypoleGreen x, int what, int... due) {
        for (int k = 0; k < due.length; k++) {
            check.due(x, "plait(" + k + ", " + what + ")", x.plait(k, what), due[k], 0);
        }
    }

    private void rows() {
        check.says("ROW of a PASS of the PLAIT: 1, if it lies over none, else 1 more than the greatest ROW of those "
                + "over which it lies.");
        MaypoleGreen x = Check.of(Check.ring(7));
        check.due("told(5) without a plait", x.told(5), 0);
        // gaps 0, 2, 4 lie over none; 1 over 0, 2; 0 over 1; 6 over 0; 4 over 4; 5 over 6 (row 4) and 4 (row 2)
        Check.dance(x, 1, 5, 9, 3, 1, 13, 9, 11);
        ask(x, 4, 1, 1, 1, 2, 3, 4, 2, 5);
        check.due("told(5)", x.told(5), 5);
        check.says("HOLDS: it and all that lie over it, over these, and so on: so many must be undone till it is.");
        ask(x, 6, 5, 5, 3, 4, 3, 2, 2, 1);
        x = Check.of(Check.ring(2));
        x.pass(0, true);
        ask(x, 6, 1);
        x = Check.of("long 40;" + Check.ring(3));
        for (int k = 0; k < 40; k++) {
            x.pass(k % 3, true);
        }
        for (int k = 0; k < 40; k++) {
            check.due("plait(" + k + ", 4)", x.plait(k, 4), k + 1);
            check.due("plait(" + k + ", 6)", x.plait(k, 6), 40 - k);
        }
    }

    private void bound() {
        check.says("BOUND is a DANCER by all PASSES in which he is and that must be undone for these.");
        MaypoleGreen x = Check.of(Check.ring(6));
        for (int d = 0; d < 6; d++) {
            check.due(x, "bound(" + d + ") without a plait", x.bound(d), 0, 0);
        }
        // a, b in gap 0; d, e in gap 3; a, c in gap 1; f in none
        Check.dance(x, 1, 7, 3);
        int[] due = {2, 2, 1, 1, 1, 0};
        for (int d = 0; d < 6; d++) {
            check.due(x, "bound(" + d + ")", x.bound(d), due[d], 0);
        }
        // the last gap, f and b, lies over gap 0
        Check.dance(x, 11);
        int[] then = {3, 3, 1, 1, 1, 1};
        for (int d = 0; d < 6; d++) {
            check.due(x, "bound(" + d + ")", x.bound(d), then[d], 0);
        }
    }

    private void way(MaypoleGreen x, int... gaps) {
        check.due(x, "homeward()", x.homeward(), gaps.length, 0);
        for (int k = 0; k < gaps.length; k++) {
            check.due(x, "homewardAt(" + k + ")", x.homewardAt(k), gaps[k], 0);
        }
        check.none(x, "homewardAt behind the last", x.homewardAt(gaps.length), 6);
    }

    private void homeward() {
        check.says("HOMEWARD: the fewest PASSES by which all stand in their HOMES (whatever becomes of the PLAIT, is LEFT); "
                + "of several rows of GAPS the first, one by one.");
        for (int n = 0; n <= 7; n++) {
            way(Check.of(Check.ring(n)));
        }
        // all are home, though there is a plait
        way(Check.of(Check.ring(2) + "pass 0 over;pass 0 over;"));
        way(Check.of(Check.ring(2) + "pass 0 under;"), 0);
        // no ribbon is left, and 40 in the plait
        way(Check.of("long 1;" + Check.ring(4) + "pass 2 over;"), 2);
        MaypoleGreen full = Check.of("long 40;" + Check.ring(3) + "pass 0 over;".repeat(39));
        full.pass(2, true);
        check.due("told(2)", full.told(2), 40);
        way(full, 0, 1);
        // two rows, 0 2 and 2 0
        way(Check.of(Check.ring(4) + "pass 2 over;pass 0 over;"), 0, 2);
        // round the end of the ring
        way(Check.of(Check.ring(5) + "pass 4 over;"), 4);
        // a went all along the ring, the others each a place back: one must go round it; c can do so by gap 0
        way(Check.of("long 6;" + Check.ring(7) + "pass 0 over;pass 1 over;pass 2 over;pass 3 over;pass 4 over;pass 5 over;"),
                0, 6, 5, 4, 3, 2);
    }

    private void dances() {
        check.says("A DANCE of a TRAY: its first n (0 to 40) numbers are PASSES: GAP twice, 1 more if it is over; done by all "
                + "from their HOMES on, without a PLAIT, whatever is LEFT (a PASS that undoes does so).");
        MaypoleGreen x = Check.of("long 40;" + Check.ring(3));
        x.tray(0, 2, 60);
        check.range(x, "same(0, n)", 0, 40, n -> x.same(0, n));
        check.range(x, "apart(0, n)", 0, 40, n -> x.apart(0, n));
        check.range(x, "slips(0, n)", 0, 40, n -> x.slips(0, n));
        check.range(x, "slipAt(0, n, 0)", 0, 40, n -> x.slipAt(0, n, 0));
        check.due(x, "none of its numbers", x.same(0, 0), 1, 0);
        for (int code = 0; code < 6; code++) {
            MaypoleGreen y = Check.of(Check.ring(3));
            Check.dance(y, code);
            Check.fill(y, 0, code, 99);
            check.due(y, "a dance of " + code, y.same(0, 1), 1, 0);
        }
        x.write(0, 0, 6);
        check.none(x, "no such gap", x.same(0, 1), 5);
        x.write(0, 0, -1);
        check.none(x, "below 0", x.same(0, 1), 5);
        // from home on, not from where all stand, nor behind the plait; ribbons do not count
        MaypoleGreen y = Check.of("long 1;" + Check.ring(2) + "pass 0 over;");
        Check.fill(y, 0, 1, 1, 1, 0, 0);
        int[] due = {0, 1, 0, 0, 0, 1};
        for (int n = 0; n < due.length; n++) {
            check.due(y, "same(0, " + n + ")", y.same(0, n), due[n], 0);
        }
        check.says("SAME: the PLAIT it makes has those PASSES that the one now has, the same ones over each other "
                + "(in whatever order those are that do not TOUCH).");
        y = Check.of(Check.ring(4) + "pass 0 over;pass 2 under;pass 1 over;");
        sameAs(y, 1, 1, 4, 3);
        sameAs(y, 1, 4, 1, 3);
        sameAs(y, 0, 1, 3, 4);
        sameAs(y, 0, 3, 1, 4);
        sameAs(y, 0, 1, 5, 3);
        sameAs(y, 0, 1, 4);
        sameAs(y, 0, 1, 4, 3, 3);
        sameAs(y, 1, 1, 4, 3, 3, 2);
        sameAs(Check.of(Check.ring(4)), 1);
        sameAs(Check.of(""), 1);
    }

    private void sameAs(MaypoleGreen x, int due, int... dance) {
        Check.fill(x, 0, dance);
        check.due(x, "same", x.same(0, dance.length), due, 0);
    }

    private void apart() {
        check.says("APART: the fewest PASSES (whatever is LEFT) by which the PLAIT becomes SAME to that of the DANCE.");
        MaypoleGreen x = Check.of("long 1;" + Check.ring(4) + "pass 0 over;");
        apartBy(x, 1);
        apartBy(x, 0, 1);
        apartBy(x, 2, 0);
        apartBy(x, 2, 1, 1, 1);
        // gap 2 comes to it; gap 1 under it makes all to be undone first
        apartBy(x, 1, 5, 1);
        apartBy(x, 3, 3, 1);
        apartBy(Check.of(Check.ring(4)), 0);
        MaypoleGreen full = Check.of("long 40;" + Check.ring(2) + "pass 0 over;".repeat(40));
        full.tray(0, 0, 40);
        check.due(full, "40 under from 40 over", full.apart(0, 40), 80, 0);
        check.due(full, "none from 40 over", full.apart(0, 0), 40, 0);
        for (int k = 0; k < 40; k++) {
            full.write(0, k, 1);
        }
        check.due(full, "40 over from 40 over", full.apart(0, 40), 0, 0);
        check.due(full, "39 over from 40 over", full.apart(0, 39), 1, 0);
    }

    private void apartBy(MaypoleGreen x, int due, int... dance) {
        Check.fill(x, 0, dance);
        check.due(x, "apart", x.apart(0, dance.length), due, 0);
    }

    private void slips() {
        check.says("SLIPS of a DANCE: the places k (from 0 on) of it such that, with the k-th PASS the opposite one "
                + "(over for under), it makes a PLAIT SAME to the one now.");
        // over 38 times: any one of 40 over had to be under
        MaypoleGreen x = Check.of("long 40;" + Check.ring(2) + "pass 0 over;".repeat(38));
        x.tray(0, 0, 40);
        for (int k = 0; k < 40; k++) {
            x.write(0, k, 1);
        }
        check.due(x, "slips(0, 40)", x.slips(0, 40), 40, 0);
        check.due(x, "slipAt(0, 40, 0)", x.slipAt(0, 40, 0), 0, 0);
        check.due(x, "slipAt(0, 40, 39)", x.slipAt(0, 40, 39), 39, 0);
        check.none(x, "slipAt(0, 40, 40)", x.slipAt(0, 40, 40), 6);
        check.due(x, "slips(0, 39)", x.slips(0, 39), 0, 0);
        check.due(x, "slips(0, 38): what is right has none", x.slips(0, 38), 0, 0);
        check.none(x, "slipAt(0, 38, 0)", x.slipAt(0, 38, 0), 6);
        check.due(x, "slips(0, 0)", x.slips(0, 0), 0, 0);
        MaypoleGreen y = Check.of(Check.ring(5) + "pass 0 over;pass 2 over;pass 1 over;");
        Check.fill(y, 0, 1, 5, 2);
        check.due(y, "slips(0, 3)", y.slips(0, 3), 1, 0);
        check.due(y, "slipAt(0, 3, 0): the last", y.slipAt(0, 3, 0), 2, 0);
        Check.fill(y, 0, 0, 5, 3);
        check.due(y, "slipAt(0, 3, 0): the first", y.slipAt(0, 3, 0), 0, 0);
    }

    private void fits() {
        check.says("FITS of a TRAY by k (0 to 4): by twos a GAP and a COLOUR (0 to 5, 6: none), the first n (0 to 20) twos: "
                + "in how many rows of k PASSES (by GAPS, under ahead of over), all possible one behind the other, each of "
                + "these GAPS SHOWS that behind them; the first of these rows, one by one.");
        MaypoleGreen x = Check.of(Check.ring(3));
        x.tray(0, 3, 60);
        check.range(x, "fits(0, n, 1)", 0, 20, n -> x.fits(0, n, 1));
        check.range(x, "fits(0, 0, k)", 0, 4, k -> x.fits(0, 0, k));
        check.range(x, "fitsAt(0, n, 1, 0)", 0, 20, n -> x.fitsAt(0, n, 1, 0));
        check.range(x, "fitsAt(0, 0, k, 0)", 0, 4, k -> x.fitsAt(0, 0, k, 0));
        check.range(x, "ask(0, n, 1)", 0, 20, n -> x.ask(0, n, 1));
        check.range(x, "ask(0, 0, k)", 0, 4, k -> x.ask(0, 0, k));
        int[] all = {1, 6, 36, 216, 1296};
        int[] shortOnes = {1, 2, 2, 4, 4};
        MaypoleGreen y = Check.of("long 1;" + Check.ring(2));
        y.tray(0, 0, 2);
        for (int k = 0; k <= 4; k++) {
            check.due(x, "fits(0, 0, " + k + ")", x.fits(0, 0, k), all[k], 0);
            check.due(y, "fits(0, 0, " + k + ") by short ribbons", y.fits(0, 0, k), shortOnes[k], 0);
        }
        check.due(y, "under ahead of over", y.fitsAt(0, 0, 2, 0), 0, 0);
        check.due(y, "what undoes it", y.fitsAt(0, 0, 2, 1), 1, 0);
        // none in gap 0: behind no pass, or behind two
        y.write(0, 1, 6);
        int[] none = {1, 0, 2, 0, 4};
        for (int k = 0; k <= 4; k++) {
            check.due(y, "none by " + k, y.fits(0, 1, k), none[k], 0);
        }
        // colour 5 is nobody's, 0 is a's: he goes over
        y.write(0, 1, 5);
        check.due(y, "5 by 1", y.fits(0, 1, 1), 0, 0);
        y.write(0, 1, 0);
        check.due(y, "0 by 1", y.fits(0, 1, 1), 1, 0);
        check.due(y, "0 by 1", y.fitsAt(0, 1, 1, 0), 1, 0);
        y.write(0, 1, 7);
        check.none(y, "7 by 1", y.fits(0, 1, 1), 5);
        y.write(0, 1, -1);
        check.none(y, "-1 by 1", y.fits(0, 1, 1), 5);
        // the last gap of seven, over: g over a, both of colour 0
        MaypoleGreen z = Check.of(Check.ring(7));
        Check.fill(z, 0, 6, 0);
        check.due(z, "two rows", z.fits(0, 1, 1), 2, 0);
        check.due(z, "the first", z.fitsAt(0, 1, 1, 0), 12, 0);
        z.paint(0, 5);
        check.due(z, "one row", z.fits(0, 1, 1), 1, 0);
        check.due(z, "over", z.fitsAt(0, 1, 1, 0), 13, 0);
        ByDoing.seen(check);
    }

    private void ask() {
        check.says("ASK: the GAP by which they are parted the best: the most rows with what SHOWS in it are the fewest; "
                + "of several the first.");
        // each gap shows none in 4 of 6 rows
        MaypoleGreen x = Check.of(Check.ring(3));
        x.tray(0, 0, 4);
        check.due(x, "ask(0, 0, 1)", x.ask(0, 0, 1), 0, 0);
        // with none in gap 0: 4 rows; gaps 1 and 2 each part them 2, 1, 1
        x.write(0, 1, 6);
        check.due(x, "ask(0, 1, 1)", x.ask(0, 1, 1), 1, 0);
        // b and c alike: gap 1 parts them 2, 2, gap 2 still 2, 1, 1
        x.paint(1, 2);
        check.due(x, "as few: the first", x.ask(0, 1, 1), 1, 0);
        // with none in gap 1, too, the last one parts under from over
        x.write(0, 2, 1);
        x.write(0, 3, 6);
        check.due(x, "ask(0, 2, 1)", x.ask(0, 2, 1), 2, 0);
        x.paint(0, 2);
        check.none(x, "all alike", x.ask(0, 2, 1), 6);
        check.none(x, "one row", x.ask(0, 0, 0), 6);
        // in gap 0 shows 3 behind all but what undoes it, 5 of 6; in gap 1 none behind 4
        MaypoleGreen better = Check.of("dancer a colour 3;dancer b colour 3;dancer c colour 1;pass 0 over;");
        better.tray(0, 0, 0);
        check.due(better, "a later gap is better", better.ask(0, 0, 1), 1, 0);
        MaypoleGreen y = Check.of("long 40;" + Check.ring(2));
        y.tray(0, 0, 0);
        check.due(y, "the only gap", y.ask(0, 0, 4), 0, 0);
    }

    private void game() {
        check.says("GAME of n turns (0 to 3): by turns, first a caller, then a joker, one has a PASS done that can be, or none: "
                + "how many COLOURS SHOW in the end (each once), by best play (the first wants many).");
        MaypoleGreen x = Check.of(Check.ring(4));
        check.range(x, "game(n)", 0, 3, n -> x.game(n));
        int[] first = {0, 1, 0, 1};
        // two passes show; the joker undoes one of three, or has one done that shows what shows already
        x.pass(0, true);
        x.pass(2, true);
        int[] then = {2, 3, 2, 3};
        MaypoleGreen y = Check.of(Check.ring(4));
        MaypoleGreen nobody = new MaypoleGreen();
        MaypoleGreen one = Check.of(Check.ring(1));
        for (int n = 0; n <= 3; n++) {
            check.due(y, "game(" + n + ") of four", y.game(n), first[n], 0);
            check.due(x, "game(" + n + ") of four, two passes", x.game(n), then[n], 0);
            check.due(nobody, "game(" + n + ") of nobody", nobody.game(n), 0, 0);
            check.due(one, "game(" + n + ") of one", one.game(n), 0, 0);
        }
        // all of one colour: more than one never shows
        MaypoleGreen z = Check.of("dancer a colour 3;dancer b colour 3;dancer c colour 3;pass 0 over;");
        check.due(z, "game(1)", z.game(1), 1, 0);
        check.due(z, "game(2): none of two can be taken away by one", z.game(2), 1, 0);
        check.due(z, "game(3)", z.game(3), 1, 0);
        ByDoing.games(check);
    }

    private void move() {
        check.says("MOVE: the first's first PASS (GAP twice, 1 more if it is over), of all that are as good the first; "
                + "none comes last.");
        MaypoleGreen x = Check.of(Check.ring(3));
        check.due(x, "all are as good", x.moveOf(1), 0, 0);
        // under undoes, over shows the same: as good as none, and ahead of it
        MaypoleGreen alike = Check.of("dancer a colour 3;dancer b colour 3;pass 0 over;");
        check.due(alike, "over again", alike.moveOf(1), 1, 0);
        // no ribbon is left: only what undoes can be, and none is better
        MaypoleGreen y = Check.of("long 1;" + Check.ring(2) + "pass 0 over;");
        check.none(y, "none", y.moveOf(1), 6);
        check.due(y, "the joker would undo it: as good", y.moveOf(2), 0, 0);
        MaypoleGreen nobody = new MaypoleGreen();
        check.none(nobody, "none can be", nobody.moveOf(3), 6);
        // a, b, c are alike and show already: d is to be seen beside them
        MaypoleGreen z = Check.of(Check.ring(4));
        z.paint(1, 0);
        z.paint(2, 0);
        z.pass(0, true);
        check.due(z, "d over c by gap 2 under", z.moveOf(1), 4, 0);
    }

    private void odds() {
        check.says("Each PASS slips by ODDS sixteenths: SLIPPED of n (0 to 12): the odds that k or more of n PASSES do.");
        MaypoleGreen x = new MaypoleGreen();
        check.range(x, "slipped(n, 0)", 0, 12, n -> Check.orNone(x.slipped(n, 0)));
        check.range(x, "slipped(0, k)", 0, 12, k -> Check.orNone(x.slipped(0, k)));
        check.fraction(x, "slipped(0, 0)", x.slipped(0, 0), 1, 1);
        check.fraction(x, "slipped(0, 1)", x.slipped(0, 1), 0, 1);
        check.fraction(x, "slipped(12, 0)", x.slipped(12, 0), 1, 1);
        check.fraction(x, "slipped(11, 12)", x.slipped(11, 12), 0, 1);
        check.fraction(x, "slipped(12, 12)", x.slipped(12, 12), 1, 1L << 36);
        check.fraction(x, "slipped(1, 1)", x.slipped(1, 1), 1, 8);
        x.rule(3, 0);
        check.fraction(x, "slipped(12, 1)", x.slipped(12, 1), 0, 1);
        x.rule(3, 16);
        check.fraction(x, "slipped(12, 12)", x.slipped(12, 12), 1, 1);
        x.rule(3, 1);
        check.fraction(x, "slipped(12, 12)", x.slipped(12, 12), 1, 1L << 48);
        check.fraction(x, "slipped(2, 1)", x.slipped(2, 1), 31, 256);
    }

    private void drift() {
        check.says("DRIFT by k (0 to 5): k times a PASS in a GAP, each as likely: the odds that a DANCER stands in a PLACE then.");
        MaypoleGreen x = Check.of(Check.ring(3));
        check.range(x, "drift(0, 0, k)", 0, 5, k -> Check.orNone(x.drift(0, 0, k)));
        check.fraction(x, "drift(0, 0, 0)", x.drift(0, 0, 0), 1, 1);
        check.fraction(x, "drift(0, 1, 0)", x.drift(0, 1, 0), 0, 1);
        check.fraction(x, "drift(0, 2, 1), round the ring", x.drift(0, 2, 1), 1, 3);
        check.fraction(x, "drift(0, 0, 5)", x.drift(0, 0, 5), 1, 3);
        MaypoleGreen two = Check.of(Check.ring(2));
        check.fraction(two, "drift(0, 1, 5)", two.drift(0, 1, 5), 1, 1);
        check.fraction(two, "drift(0, 0, 5)", two.drift(0, 0, 5), 0, 1);
        MaypoleGreen one = Check.of(Check.ring(1));
        check.fraction(one, "drift(0, 0, 0)", one.drift(0, 0, 0), 1, 1);
        check.no(one, "drift(0, 0, 1)", one.drift(0, 0, 1), 6);
        // place 3 is three passes off, and so is place 4, the other way round
        MaypoleGreen seven = Check.of("long 1;" + Check.ring(7));
        check.fraction(seven, "drift(0, 3, 2)", seven.drift(0, 3, 2), 0, 1);
        check.fraction(seven, "drift(0, 3, 3)", seven.drift(0, 3, 3), 1, 343);
        check.fraction(seven, "drift(0, 4, 3)", seven.drift(0, 4, 3), 1, 343);
        check.fraction(seven, "drift(0, 0, 1)", seven.drift(0, 0, 1), 5, 7);
    }
}
