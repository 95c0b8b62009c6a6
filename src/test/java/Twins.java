import java.util.ArrayList;
import java.util.List;

/** Two objects of the same calls must answer alike in all that can be asked; so it is seen what a call has changed. */
final class Twins {
    private Twins() {
    }

    /** What is done to an object. */
    interface Deed {
        long on(MaypoleGreen x);
    }

    /**
     * An object with something of everything: 5 DANCERS, a PLAIT, FEASTS that were lived, two MARKS (the first of
     * another GREEN), TRAYS 0 to 2 of 8, 3 and 0 numbers, a FRACTION, a FAULT, and FEASTS on the tape.
     */
    static MaypoleGreen rich() {
        MaypoleGreen x = new MaypoleGreen();
        Check.green(x, "odds 1;dancer q colour 4;dancer r colour 5;pass 0 over;");
        Check.feasts(x, "back;any;");
        x.mark();
        Check.green(x, "odds 5;long 9;" + Check.ring(5) + "pass 0 over;pass 1 under;");
        Check.feasts(x, "any;loop 2;any;end;paint c 5;weave 1;back;back;");
        x.live(77);
        x.mark();
        x.pass(3, true);
        x.tray(0, 1, 8);
        long[] numbers = {0, 5, 2, 300, -1, 7, 1, 3};
        for (int k = 0; k < numbers.length; k++) {
            x.write(0, k, numbers[k]);
        }
        x.tray(1, 2, 3);
        x.tray(2, 1, 0);
        x.slipped(3, 2);
        Check.feasts(x, "paint z 1;");
        Check.feed(x, "weave 2;pass 0 over;");
        return x;
    }

    /** All that can be asked; what is asked may change the object, so it comes last. */
    static List<Long> answers(MaypoleGreen x, boolean tapeAndFault) {
        List<Long> all = new ArrayList<>();
        all.add(x.top());
        all.add(x.bottom());
        for (int what = 0; what < 5; what++) {
            add(all, x, x.lived(what));
        }
        if (tapeAndFault) {
            all.add((long) x.fault(0));
            all.add((long) x.fault(1));
        }
        dancers(all, x);
        plait(all, x);
        trays(all, x);
        lives(all, x);
        if (tapeAndFault) {
            all.add((long) x.feed(0, 0, 0, 0, 0));
            add(all, x, x.feasts(20));
            lives(all, x);
        }
        for (int k = 0; k < 4; k++) {
            add(all, x, x.undo());
            dancers(all, x);
            plait(all, x);
            lives(all, x);
        }
        return all;
    }

    private static void add(List<Long> all, MaypoleGreen x, long answer) {
        all.add(answer);
        all.add((long) x.status());
    }

    private static void dancers(List<Long> all, MaypoleGreen x) {
        for (int what = 0; what < 10; what++) {
            add(all, x, x.told(what));
        }
        for (int d = 0; d < 7; d++) {
            add(all, x, x.place(d));
            add(all, x, x.dancer(d, 1));
            add(all, x, x.dancer(d, 2));
        }
    }

    private static void plait(List<Long> all, MaypoleGreen x) {
        int many = x.told(2);
        for (int k = 0; k < many; k++) {
            for (int what = 0; what < 4; what++) {
                add(all, x, x.plait(k, what));
            }
        }
    }

    private static void trays(List<Long> all, MaypoleGreen x) {
        for (int tray = 0; tray < 4; tray++) {
            for (int place = 0; place <= 60; place++) {
                add(all, x, x.read(tray, place));
            }
            for (int other = 0; other < 4; other++) {
                // pouring none tells whether both are there, and of one sort
                add(all, x, Check.orNone(x.pour(tray, 0, other, 0, 0)));
            }
            if (x.write(tray, 0, 0x0123_4567_89ab_cdefL)) {
                add(all, x, x.read(tray, 0));
            }
        }
    }

    private static void lives(List<Long> all, MaypoleGreen x) {
        add(all, x, Check.orNone(x.mean(40, 9)));
        all.add(x.top());
        all.add(x.bottom());
        add(all, x, x.live(4321));
        for (int what = 0; what < 5; what++) {
            add(all, x, x.lived(what));
        }
        plait(all, x);
    }

    /** Whether a deed leaves all else as it was. */
    static boolean changesNothing(Deed prepare, Deed deed, boolean tapeAndFault) {
        MaypoleGreen one = rich();
        MaypoleGreen other = rich();
        prepare.on(one);
        prepare.on(other);
        deed.on(one);
        return answers(one, tapeAndFault).equals(answers(other, tapeAndFault));
    }
}
