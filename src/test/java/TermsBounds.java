/** Sentence by sentence: what the document's Terms say ahead of its section 2, TRAYS and GREENS. */
final class TermsBounds {
    private static final String[] RESERVED = {
        "odds", "long", "dancer", "colour", "pass", "over", "under", "back", "weave", "paint", "any", "when", "home",
        "at", "shows", "plait", "loop", "end", "stop"
    };
    private static final int[] GAPS = {0, 0, 1, 3, 4, 5, 6, 7};

    private final Check check;

    TermsBounds(Check check) {
        this.check = check;
    }

    void run() {
        trays();
        longTexts();
        blanks();
        tokens();
        parts();
        names();
        numbers();
        ring();
        passesOfTexts();
        faults();
        faultsOfNames();
        faultsOfOrder();
        taken();
    }

    private void trays() {
        check.says("TRAYS 0 to 3 are MISSING at first,");
        MaypoleGreen x = new MaypoleGreen();
        for (int tray = -1; tray <= 4; tray++) {
            check.none(x, "read(" + tray + ", 0)", x.read(tray, 0), tray < 0 || tray > 3 ? 1 : 2);
        }
        check.says("or rows of 0 to 60 numbers");
        for (int sort = 0; sort <= 3; sort++) {
            for (int many : new int[] {0, 1, 59, 60}) {
                check.due(x, "tray(.., " + many + ")", x.tray(sort, sort, many), true, 0);
                for (int place = 0; place < many; place++) {
                    check.due(x, "read(.., " + place + ")", x.read(sort, place), 0, 0);
                }
                check.none(x, "read behind the last", x.read(sort, many), 3);
                check.no(x, "write behind the last", x.write(sort, many, 0), 3);
            }
        }
        check.no(x, "tray(0, 0, 61)", x.tray(0, 0, 61), 1);
        check.no(x, "tray(0, 0, -1)", x.tray(0, 0, -1), 1);
        check.says("of 8 bits (sort 0), 16 (1), 32 (2) or 64 (3).");
        for (int sort = 0; sort <= 3; sort++) {
            x.tray(0, sort, 1);
            long half = 1L << (8 << sort) - 1;
            keeps(x, half - 1, half - 1);
            keeps(x, -half, -half);
            keeps(x, half, -half);
            keeps(x, -half - 1, half - 1);
            keeps(x, 2 * half + 5, 5);
            keeps(x, 2 * half - 1, -1);
        }
        check.no(x, "tray(0, -1, 1)", x.tray(0, -1, 1), 1);
        check.no(x, "tray(0, 4, 1)", x.tray(0, 4, 1), 1);
    }

    private void keeps(MaypoleGreen x, long v, long due) {
        x.write(0, 0, v);
        check.due(x, "read of " + v, x.read(0, 0), due, 0);
    }

    private void longTexts() {
        check.says("A GREEN is a TEXT of at most 900 bytes.");
        String text = " ".repeat(893) + "odds 7;";
        MaypoleGreen x = check.greenFine(text, 0);
        check.due("told(3)", x.told(3), 7);
        Check.feed(x, text);
        check.due("a 901st byte", x.feed(0, 0, 0, 0, 0), -1);
        check.none(x, "green(901)", x.green(901), 1);
        check.none(x, "green(899), without the last byte", x.green(899), 9);
        check.due("fault(0)", x.fault(0), 2);
        check.due("fault(1)", x.fault(1), 899);
    }

    /** Every byte in the middle of a PART. */
    private void blanks() {
        check.says("TOKENS, as long as they go, between them blanks (10, 32):");
        for (int b = 0; b < 256; b++) {
            String text = "odds" + (char) b + "1;";
            if (b == 10 || b == 32) {
                check.due("told(3)", check.greenFine(text, 0).told(3), 1);
            } else if (b == '0' || b == '1') {
                check.due("told(3)", check.greenFine(text, 0).told(3), 10 * (b - '0') + 1);
            } else if (b >= '2' && b <= '9') {
                check.greenFault(text, 4, 4);
            } else if (b >= 'a' && b <= 'z') {
                check.greenFault(text, 2, 0);
            } else {
                check.greenFault(text, isSign(b) ? 2 : 1, 4);
            }
        }
        check.greenFault("oddsodds 1;", 2, 0);
        check.greenFault("odds 1 6;", 2, 7);
        MaypoleGreen x = check.greenFine("odds16;long40;", 0);
        check.due("told(3)", x.told(3), 16);
        check.due("told(4)", x.told(4), 40);
        check.greenFine("\n \nodds\n\n3 \n ;  \n", 0);
    }

    private static boolean isSign(int b) {
        return b == ';' || b == '<' || b == '>' || b == '=';
    }

    /** Every byte as a whole text. */
    private void tokens() {
        check.says("WORDS (small letters), NUMBERS (1 to 4 digits), SIGNS ; < > =");
        for (int b = 0; b < 256; b++) {
            String text = "" + (char) b;
            if (b == 10 || b == 32) {
                check.greenFine(text, 0);
            } else {
                boolean begins = b >= 'a' && b <= 'z' || b >= '0' && b <= '9' || isSign(b);
                check.greenFault(text, begins ? 2 : 1, 0);
                check.feastFault(new MaypoleGreen(), text, begins ? 2 : 1, 0);
            }
        }
        for (String number : new String[] {"7", "07", "007", "0007"}) {
            check.due("told(3)", check.greenFine("odds " + number + ";", 0).told(3), 7);
        }
        check.greenFault("odds 00007;", 1, 5);
        check.greenFault("odds 9999;", 4, 5);
        check.greenFault("odds 10000;", 1, 5);
    }

    private void parts() {
        check.says("GREEN: {PART}.");
        check.greenFine("", 0);
        check.greenFine("  \n", 0);
        check.says("PART: odds NUMBER ; or long NUMBER ; or dancer NAME colour NUMBER ; or pass NUMBER HOW ;");
        String[] tokens = {"odds", "3", ";", "long", "9", ";", "dancer", "a", "colour", "1", ";",
            "dancer", "b", "colour", "2", ";", "pass", "0", "under", ";"};
        int begun = 0;
        int dancers = 0;
        StringBuilder text = new StringBuilder();
        for (String token : tokens) {
            // "=" can stand nowhere in a GREEN
            check.greenFault(text + "= ", 2, text.length());
            if (begun == 0) {
                check.greenFine(text.toString(), dancers);
            } else {
                check.greenFault(text.toString(), 2, text.length());
            }
            text.append(token).append(" ");
            begun = token.equals(";") ? 0 : begun + 1;
            dancers += token.equals("colour") ? 1 : 0;
        }
        MaypoleGreen x = check.greenFine(text.toString(), 2);
        check.due("told(2)", x.told(2), 1);
        check.says("HOW: over or under.");
        check.due("plait(0, 1)", check.greenFine(Check.ring(2) + "pass 0 over;", 2).plait(0, 1), 1);
        check.due("plait(0, 1)", check.greenFine(Check.ring(2) + "pass 0 under;", 2).plait(0, 1), 0);
        for (String how : new String[] {"ove", "overs", "unde", "unders", "back", "1", "a"}) {
            check.greenFault(Check.ring(2) + "pass 0 " + how + ";", 2, 43);
        }
        check.says("({ } any number of times.)");
        x = check.greenFine(Check.ring(2) + "pass 0 over;pass 0 under;".repeat(34), 2);
        check.due("told(2)", x.told(2), 0);
    }

    private void names() {
        check.says("NAME: a WORD of 1 to 8 letters");
        String letters = "zyxwvutsr";
        for (int many = 1; many <= 8; many++) {
            check.greenFine("dancer " + letters.substring(0, many) + " colour 1;", 1);
        }
        check.greenFault("dancer " + letters + " colour 1;", 2, 7);
        check.greenFault("dancer " + letters + letters + " colour 1;", 2, 7);
        check.greenFault("dancer colour 1;", 2, 7);
        check.says("that is none of odds, long, dancer, colour, pass, over, under, back, weave, paint, any, when, home, "
                + "at, shows, plait, loop, end, stop.");
        for (String word : RESERVED) {
            check.greenFault("dancer " + word + " colour 1;", 2, 7);
            check.greenFine("dancer " + word + "x colour 1;", 1);
            check.greenFine("dancer x" + word + " colour 1;", 1);
            check.greenFine("dancer " + word.substring(1) + " colour 1;", 1);
        }
        check.says("No two DANCERS have one NAME.");
        check.greenFault("dancer a colour 1;dancer a colour 2;", 3, 25);
        check.greenFault("dancer abcdefgh colour 1;dancer b colour 1;dancer abcdefgh colour 2;", 3, 50);
        check.greenFine("dancer a colour 1;dancer aa colour 1;dancer aaa colour 1;", 3);
        check.greenFine("dancer abcdefgh colour 1;dancer abcdefgi colour 1;dancer zbcdefgh colour 1;", 3);
    }

    private void numbers() {
        check.says("ODDS (0 to 16; 2 without).");
        check.due("told(3)", check.greenFine("", 0).told(3), 2);
        check.due("told(3)", check.greenFine("odds 0;", 0).told(3), 0);
        check.due("told(3)", check.greenFine("odds 16;", 0).told(3), 16);
        check.greenFault("odds 17;", 4, 5);
        check.says("LONG (1 to 40; 12 without).");
        check.due("told(4)", check.greenFine("", 0).told(4), 12);
        check.due("told(4)", check.greenFine("long 1;", 0).told(4), 1);
        check.due("told(4)", check.greenFine("long 40;", 0).told(4), 40);
        check.greenFault("long 0;", 4, 5);
        check.greenFault("long 41;", 4, 5);
        check.says("DANCERS, at most 7: a COLOUR (0 to 5);");
        for (int n = 0; n <= 7; n++) {
            check.due("told(0)", check.greenFine(Check.ring(n), n).told(0), n);
        }
        check.greenFault(Check.ring(8), 6, 126);
        check.due("dancer(0, 1)", check.greenFine("dancer a colour 0;", 1).dancer(0, 1), 0);
        check.due("dancer(0, 1)", check.greenFine("dancer a colour 5;", 1).dancer(0, 1), 5);
        check.greenFault("dancer a colour 6;", 4, 16);
    }

    private void ring() {
        check.says("each stands in the PLACE (his HOME) of his number, round the ring, the last beside the first.");
        for (int n = 1; n <= 7; n++) {
            MaypoleGreen x = Check.of(Check.ring(n));
            check.due("told(7)", x.told(7), (1 << n) - 1);
            for (int d = 0; d < n; d++) {
                check.due("dancer(" + d + ", 0)", x.dancer(d, 0), d);
                check.due("place(" + d + ")", x.place(d), d);
            }
            check.none(x, "place(" + n + ")", x.place(n), 1);
            if (n > 1) {
                check.due(x, "meet of the first and the last", x.meet(0, n - 1), 0, 0);
            }
        }
        check.says("A GAP is between a PLACE and the next one: GAP i between i and i and 1, the last one between "
                + "the last PLACE and 0;");
        for (int n = 2; n <= 7; n++) {
            for (int gap = 0; gap < GAPS[n]; gap++) {
                MaypoleGreen x = Check.of(Check.ring(n));
                x.pass(gap, true);
                for (int place = 0; place < n; place++) {
                    int next = (gap + 1) % n;
                    int due = place == gap ? next : place == next ? gap : place;
                    check.due("place(" + place + ") of " + n + " behind gap " + gap, x.place(place), due);
                }
            }
        }
        check.says("with two DANCERS there is one GAP, with fewer none.");
        for (int n = 0; n <= 7; n++) {
            MaypoleGreen x = Check.of(Check.ring(n));
            check.due("told(1) of " + n, x.told(1), GAPS[n]);
            check.none(x, "pass behind the last gap", x.pass(GAPS[n], true), 1);
            if (n > 1) {
                check.due(x, "pass in the last gap", x.pass(GAPS[n] - 1, true), 1, 0);
            }
        }
    }

    private void passesOfTexts() {
        check.says("PASSES are done one behind the other as they are told (each has to be possible), "
                + "behind them nobody comes.");
        MaypoleGreen x = check.greenFine(Check.ring(3) + "pass 0 over;pass 1 over;", 3);
        stand(x, 1, 2, 0);
        x = check.greenFine(Check.ring(3) + "pass 1 over;pass 0 over;", 3);
        stand(x, 2, 0, 1);
        String two = "long 1;" + Check.ring(3) + "pass 0 over;";
        check.greenFault(two + "pass 1 over;", 5, two.length() + 7);
        check.greenFine(two + "pass 0 under;pass 1 over;", 3);
        check.greenFault(two + "dancer d colour 1;", 5, two.length());
    }

    private void stand(MaypoleGreen x, int... due) {
        for (int place = 0; place < due.length; place++) {
            check.due("place(" + place + ")", x.place(place), due[place]);
        }
    }

    private void faults() {
        check.says("FAULTS, the first along the text (of one TOKEN the least kind):");
        check.greenFault("odds 17;odds 1;?", 4, 5);
        check.greenFault("odds 1;odds 17;?", 5, 7);
        check.greenFault("?odds 17;odds 1;", 1, 0);
        check.greenFault("odds 1 ?", 1, 7);
        // behind a pass that can't be nothing is looked at
        check.greenFault("long 1;" + Check.ring(2) + "pass 0 over;pass 0 over ?", 5, 62);
        // a word of 9 letters is no dancer's name either; a 31st step is too deep, too; 5 digits are too many
        check.feastFault(Check.of(Check.ring(2)), "paint abcdefghi 1;", 2, 6);
        check.feastFault(Check.of(Check.ring(2)), "any;".repeat(27) + "loop 1;loop 1;loop 1;loop 1;", 6, 129);
        check.greenFault("odds 00017;", 1, 5);
        check.greenFault(Check.ring(7) + "pass 0 over;dancer a colour 9;", 5, 138);
        check.says("1 no TOKEN begins so (a NUMBER of 5 digits and more: at its first).");
        check.greenFault("odds 12345;", 1, 5);
        check.greenFault("odds 123456789012;", 1, 5);
        check.greenFault("odds 1;12345", 1, 7);
        check.greenFault("odds 1;odds_", 5, 7);
        check.greenFault("odds 1;\t", 1, 7);
        check.greenFault("odds 1;A", 1, 7);
        check.greenFault("dancer A", 1, 7);
        check.says("2 it can't stand there (the end: the text's length; a WORD of 9 letters and more where a NAME must stand).");
        check.greenFault("odds", 2, 4);
        check.greenFault("odds 1", 2, 6);
        check.greenFault("odds \n ", 2, 7);
        check.greenFault("dancer abcdefghi colour 1;", 2, 7);
        check.greenFault("dancer abcdefghijklmnop", 2, 7);
        check.greenFault("abcdefghi", 2, 0);
    }

    private void faultsOfNames() {
        check.says("3 a new NAME that is taken; a NAME that is no DANCER.");
        for (int d = 0; d < 6; d++) {
            check.greenFault(Check.ring(6) + "dancer " + (char) ('a' + d) + " colour 1;", 3, 115);
        }
        MaypoleGreen x = Check.of(Check.ring(6));
        check.feastFine(x, "paint f 1;", 1);
        check.feastFault(x, "paint g 1;", 3, 6);
        x.come(0);
        check.feastFault(x, "paint g 1;", 3, 6);
        check.says("4 a NUMBER that can't be (no such GAP, too).");
        for (int n = 0; n <= 7; n++) {
            check.greenFault(Check.ring(n) + "pass " + GAPS[n] + " over;", 4, 18 * n + 5);
            if (n > 1) {
                check.greenFine(Check.ring(n) + "pass " + (GAPS[n] - 1) + " over;", n);
            }
        }
        check.greenFault("odds 9999;", 4, 5);
    }

    private void faultsOfOrder() {
        check.says("5 odds, long told already, long, a dancer behind a pass (at that WORD); a PASS that can't be (at HOW).");
        check.greenFault("odds 1;odds 1;", 5, 7);
        check.greenFault("odds 1;long 2;odds", 5, 14);
        check.greenFault("long 2;long 2;", 5, 7);
        check.greenFault("long 2;odds 1;long", 5, 14);
        String passed = Check.ring(2) + "pass 0 over;";
        check.greenFault(passed + "long 2;", 5, 48);
        check.greenFault(passed + "dancer c colour 2;", 5, 48);
        check.greenFault(passed + "odds 1;long 2;", 5, 55);
        check.due("told(3)", check.greenFine(passed + "odds 1;", 2).told(3), 1);
        check.greenFault(passed + "odds 1;odds 1;", 5, 55);
        // pass and its undoing: it was told all the same
        check.greenFault(passed + "pass 0 under;long 2;", 5, 61);
        check.greenFault("long 2;" + passed + "pass 0 over;pass 0 over;", 5, 74);
        // 40 are the most
        String full = "long 40;" + Check.ring(2) + "pass 0 over;".repeat(40);
        check.due("told(2)", check.greenFine(full, 2).told(2), 40);
        check.greenFault(full + "pass 0 over;", 5, full.length() + 7);
        check.due("told(2)", check.greenFine(full + "pass 0 under;", 2).told(2), 39);
        check.says("6 an eighth dancer (at that WORD; behind a pass: 5).");
        check.greenFault(Check.ring(7) + "dancer h colour 1;", 6, 126);
        check.greenFault(Check.ring(7) + "dancer", 6, 126);
        check.greenFault(Check.ring(7) + "dancer a colour 9;", 6, 126);
        check.greenFault(Check.ring(7) + "pass 0 over;dancer h colour 1;", 5, 138);
    }

    private void taken() {
        check.says("A GREEN that is taken is there in place of that ahead; there are no FEASTS.");
        MaypoleGreen x = Check.of("odds 5;long 7;" + Check.ring(4) + "pass 0 over;");
        Check.feasts(x, "back;");
        x.pass(2, true);
        check.due(x, "another green", Check.green(x, "dancer z colour 3;dancer y colour 3;"), 2, 0);
        int[] told = {2, 1, 0, 2, 12, 0, 0, 3, 0, 0};
        for (int what = 0; what < told.length; what++) {
            check.due("told(" + what + ")", x.told(what), told[what]);
        }
        check.due("dancer(0, 1)", x.dancer(0, 1), 3);
        check.due("dancer(0, 2)", x.dancer(0, 2), 12);
        check.none(x, "live(0)", x.live(0), 6);
        check.no(x, "mean(0, 1)", x.mean(0, 1), 6);
        check.feastFault(x, "paint a 1;", 3, 6);
        check.feastFine(x, "paint z 1;", 1);
        check.due(x, "the green of nobody", x.green(0), 0, 0);
        check.due("told(0)", x.told(0), 0);
        check.none(x, "live(0)", x.live(0), 6);
        nothingIsLeft();
    }

    /** What a text told, taken or faulty, is not there for the next one. */
    private void nothingIsLeft() {
        MaypoleGreen x = new MaypoleGreen();
        String[] texts = {
            "odds 9;long 3;" + Check.ring(3) + "pass 0 over;pass 1 over;?", "odds 8;long 2;" + Check.ring(7),
            "odds 7;long 1;" + Check.ring(2) + "pass 0 over;", "odds 6;odds", "long 5;long", Check.ring(8), "dancer b"
        };
        for (String text : texts) {
            Check.green(x, text);
            check.due(x, "behind " + text, Check.green(x, "dancer b colour 1;dancer a colour 2;"), 2, 0);
            int[] told = {2, 1, 0, 2, 12, 0, 0, 3, 0, 0};
            for (int what = 0; what < told.length; what++) {
                check.due("told(" + what + ")", x.told(what), told[what]);
            }
            check.due("odds, long, a dancer and a pass can be told", Check.green(x, "odds 1;long 9;" + Check.ring(2) + "pass 0 over;"), 2);
            check.due("told(2)", x.told(2), 1);
        }
        check.feastFault(x, "loop 1;loop 1;when home a;", 2, 26);
        check.feastFault(x, "end;", 2, 0);
        check.feastFault(x, "any;".repeat(31), 6, 120);
        check.feastFine(x, "loop 1;loop 1;loop 1;any;end;end;end;", 4);
    }
}
