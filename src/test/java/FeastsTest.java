/** Promises 43 to 45: live, lived, mean. */
public final class FeastsTest {
    private static final Check CHECK = new Check("FeastsTest");

    public static void main(String[] args) {
        wrongOnes();
        steps();
        draws();
        tests();
        loops();
        most();
        means();
        CHECK.end();
    }

    /** Lives through feasts; due are the steps, then all of lived(). */
    private static MaypoleGreen lives(String green, String feasts, int seed, int... due) {
        MaypoleGreen x = Check.of(green);
        if (Check.feasts(x, feasts) < 0) {
            CHECK.due("faulty at " + x.fault(1) + ": " + feasts, 1, 0);
        }
        CHECK.due(x, feasts + ": live", x.live(seed), due[0], 0);
        for (int what = 0; what < 5; what++) {
            CHECK.due(x, feasts + ": lived(" + what + ")", x.lived(what), due[what + 1], 0);
        }
        return x;
    }

    private static void wrongOnes() {
        MaypoleGreen x = Check.of(Check.ring(3));
        CHECK.none(x, "lived(0) ahead of any", x.lived(0), 6);
        CHECK.none(x, "lived(5)", x.lived(5), 1);
        CHECK.none(x, "lived(-1)", x.lived(-1), 1);
        CHECK.none(x, "live(0) without feasts", x.live(0), 6);
        CHECK.none(x, "live(-1)", x.live(-1), 1);
        CHECK.no(x, "mean(0, 1) without feasts", x.mean(0, 1), 6);
        CHECK.no(x, "mean(0, 0)", x.mean(0, 0), 1);
        Check.feasts(x, "any;");
        CHECK.none(x, "live(10000)", x.live(10000), 1);
        CHECK.none(x, "live(min)", x.live(Integer.MIN_VALUE), 1);
        CHECK.none(x, "lived(0): there was none", x.lived(0), 6);
        CHECK.due(x, "live(9999)", x.live(9999), 1, 0);
        CHECK.due(x, "lived(1)", x.lived(1), 1, 0);
        x.back();
        x.green(0);
        CHECK.none(x, "a new green: no feasts", x.live(0), 6);
        CHECK.due(x, "lived(1) of live() latest with STATUS 0", x.lived(1), 1, 0);
    }

    private static void steps() {
        // steps, missed, passes, came, undone, left
        MaypoleGreen x = lives(Check.ring(3), "pass 0 over;pass 0 under;pass 1 under;back;back;", 0, 5, 1, 4, 2, 2, 0);
        CHECK.due("told(6)", x.told(6), 4);
        CHECK.due("told(2)", x.told(2), 0);
        x = lives(Check.ring(3), "paint a 0;paint b 5;paint b 1;paint b 4;", 0, 4, 1, 0, 0, 0, 0);
        CHECK.due("his colour from now on", x.dancer(1, 1), 4);
        lives("long 1;" + Check.ring(3), "pass 0 over;pass 0 over;pass 1 over;", 0, 3, 2, 1, 1, 0, 0);
        x = lives("long 3;" + Check.ring(3), "weave 1;", 0, 1, 0, 2, 2, 0, 0);
        CHECK.due("told(2)", x.told(2), 2);
        lives("long 1;" + Check.ring(4), "weave 9;weave 9;", 0, 2, 1, 2, 2, 0, 0);
        lives(Check.ring(4), "pass 0 under;weave 1;", 0, 2, 0, 5, 4, 1, 0);
        lives(Check.ring(1), "weave 3;any;back;", 0, 3, 3, 0, 0, 0, 0);
        lives(Check.ring(2), "pass 0 over;stop;pass 0 over;", 0, 2, 0, 1, 1, 0, 0);
        lives(Check.ring(2), "", 0, 0, 0, 0, 0, 0, 0);
        lives(Check.ring(2), "weave 1;", 0, 1, 0, 1, 1, 0, 0);
        x = lives(Check.ring(4), "pass 2 under;pass 3 over;", 0, 2, 0, 2, 2, 0, 0);
        CHECK.due("gap", x.plait(0, 0), 2);
        CHECK.due("under", x.plait(0, 1), 0);
        CHECK.due("gap", x.plait(1, 0), 3);
        CHECK.due("over", x.plait(1, 1), 1);
        // lived() is of the latest alone
        Check.feasts(x, "back;");
        x.live(0);
        CHECK.due("lived(1)", x.lived(1), 1);
        CHECK.due("lived(2)", x.lived(2), 0);
        CHECK.due("lived(3)", x.lived(3), 1);
        x.live(0);
        CHECK.due("lived(3)", x.lived(3), 1);
    }

    private static void draws() {
        // from 0: s is 11493, 29982, 46331; by 8: 1436, 3747, 5791; by 3: 2, by 2: 1, by 16: 15
        MaypoleGreen x = lives(Check.ring(3), "any;", 0, 1, 0, 1, 1, 0, 0);
        CHECK.due("gap", x.plait(0, 0), 2);
        CHECK.due("over", x.plait(0, 1), 1);
        x = lives("odds 15;" + Check.ring(3), "any;", 0, 1, 0, 1, 1, 0, 0);
        CHECK.due("15 is not below 15", x.plait(0, 1), 1);
        x = lives("odds 16;" + Check.ring(3), "any;", 0, 1, 0, 1, 1, 0, 0);
        CHECK.due("15 is below 16", x.plait(0, 1), 0);
        CHECK.due("gap", x.plait(0, 0), 2);
        // and on: 13836, 21537, 30282; by 8: 1729, 2692, 3785; by 3: 1, by 2: 0, by 16: 9
        x = lives("odds 9;" + Check.ring(3), "any;any;", 0, 2, 0, 2, 2, 0, 0);
        CHECK.due("gap", x.plait(1, 0), 1);
        CHECK.due("under", x.plait(1, 1), 0);
        x = lives("odds 10;" + Check.ring(3), "any;any;", 0, 2, 0, 2, 2, 0, 0);
        CHECK.due("9 is below 10", x.plait(1, 1), 1);
        // over, then under, by two dancers with short ribbons: the first can't be, the second undoes
        lives("odds 0;long 1;" + Check.ring(2), "pass 0 over;loop 2;any;end;", 0, 4, 1, 2, 1, 1, 0);
        // without gaps nothing is drawn
        lives(Check.ring(1), "any;", 0, 1, 1, 0, 0, 0, 0);
    }

    private static void when(String test, boolean holds) {
        // in the beginning: gap 0 over, so places b a c, gap 0 shows 0
        lives(Check.ring(3) + "pass 0 over;", "when " + test + ";pass 2 over;end;", 0, holds ? 2 : 1, 0, holds ? 1 : 0, holds ? 1 : 0, 0, 0);
    }

    private static void tests() {
        when("home a", false);
        when("home c", true);
        when("at a 1", true);
        when("at a 0", false);
        when("shows 0 0", true);
        when("shows 0 1", false);
        when("shows 0 6", false);
        when("shows 1 6", true);
        when("plait = 1", true);
        when("plait = 0", false);
        when("plait < 1", false);
        when("plait<2", true);
        when("plait > 0", true);
        when("plait > 1", false);
        // what is within a when that does not hold is not done, what is behind its end is
        lives(Check.ring(3) + "pass 0 over;", "when home b;when home c;pass 0 over;end;end;when plait=1;pass 1 over;end;back;",
                0, 4, 0, 2, 1, 1, 0);
    }

    private static void loops() {
        MaypoleGreen x = lives(Check.ring(2), "loop 3;pass 0 over;end;", 0, 4, 0, 3, 3, 0, 0);
        CHECK.due("told(2)", x.told(2), 3);
        // a loop counts each time it is come to from ahead
        lives(Check.ring(2), "loop 2;loop 3;pass 0 over;end;end;", 0, 9, 0, 6, 6, 0, 0);
        lives(Check.ring(2), "loop 99;end;", 0, 1, 0, 0, 0, 0, 0);
        lives(Check.ring(2), "loop 5;pass 0 over;when plait=2;stop;end;end;pass 0 over;", 0, 6, 0, 2, 2, 0, 0);
    }

    private static void most() {
        String body = "loop 99;back;back;back;end;";
        lives(Check.ring(2), body + "back;back;", 0, 300, 299, 0, 0, 0, 0);
        lives(Check.ring(2), body + "back;back;back;", 0, 300, 299, 0, 0, 0, 1);
        lives(Check.ring(2), body + "back;back;loop 1;end;", 0, 300, 299, 0, 0, 0, 1);
        lives(Check.ring(2), body + "back;when plait=0;end;", 0, 300, 298, 0, 0, 0, 0);
        lives(Check.ring(2), body + "back;when plait=0;stop;end;", 0, 300, 298, 0, 0, 0, 1);
        lives(Check.ring(2), body + "back;when plait=1;stop;end;", 0, 300, 298, 0, 0, 0, 0);
        lives(Check.ring(2), body + "back;stop;back;", 0, 300, 298, 0, 0, 0, 0);
        lives(Check.ring(2), "loop 99;loop 99;loop 99;end;end;end;", 0, 300, 0, 0, 0, 0, 1);
        lives(Check.ring(2), "loop 99;loop 99;back;end;end;", 0, 300, 296, 0, 0, 0, 1);
    }

    private static void means() {
        MaypoleGreen x = Check.of(Check.ring(5));
        Check.feasts(x, "loop 9;any;end;when shows 0 6;back;end;");
        for (int seed = 0; seed < 60; seed += 7) {
            int sum = 0;
            for (int k = 0; k < 20; k++) {
                x.mark();
                x.live(seed + k);
                sum += x.told(2);
                x.undo();
            }
            int divisor = gcd(sum, 20);
            CHECK.fraction(x, "mean(" + seed + ", 20)", x.mean(seed, 20), sum / divisor, 20 / divisor);
        }
        CHECK.due("all stays as it is", x.told(2), 0);
        CHECK.due("all stays as it is", x.told(6), 0);
        int missed = x.lived(0);
        x.mean(77, 3);
        CHECK.due("lived() is of live()", x.lived(0), missed);
        CHECK.no(x, "mean(-1, 1)", x.mean(-1, 1), 1);
        CHECK.no(x, "mean(10000, 1)", x.mean(10000, 1), 1);
        CHECK.no(x, "mean(0, 0)", x.mean(0, 0), 1);
        CHECK.no(x, "mean(0, 21)", x.mean(0, 21), 1);
        CHECK.no(x, "mean(9999, 2)", x.mean(9999, 2), 1);
        CHECK.no(x, "mean(max, max)", x.mean(Integer.MAX_VALUE, Integer.MAX_VALUE), 1);
        CHECK.due(x, "mean(9999, 1)", x.mean(9999, 1), true, 0);
        CHECK.due(x, "mean(9980, 20)", x.mean(9980, 20), true, 0);
        Check.feasts(x, "back;");
        CHECK.fraction(x, "mean of none", x.mean(0, 7), 0, 1);
        x.pass(0, true);
        x.pass(0, true);
        CHECK.fraction(x, "mean of 1", x.mean(0, 7), 1, 1);
    }

    private static int gcd(int a, int b) {
        return b == 0 ? Math.max(a, 1) : gcd(b, a % b);
    }
}
