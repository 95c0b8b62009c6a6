import java.util.HashSet;
import java.util.List;
import java.util.Map;
import java.util.Set;
import java.util.TreeMap;
import java.util.TreeSet;

/** Section 5 of the document: each STATUS of each call, of two that hold at once the first, and what a refused call leaves. */
final class Refusals {
    private static final Set<String> YES_OR_NO =
            Set.of("tray", "write", "pour", "trade", "rule", "slipped", "drift", "share", "mean");
    private static final Twins.Deed NOTHING = x -> 0;

    private final Check check;
    private final Document document;
    /** By call: the STATUSES that were met, and the twos of which both held at once. */
    private final Map<String, Set<Integer>> met = new TreeMap<>();
    private final Map<String, Set<String>> twos = new TreeMap<>();

    Refusals(Check check, Document document) {
        this.check = check;
        this.document = document;
    }

    void run() {
        check.says("STATUS of a call is the first of these that holds: 1 a number that can't be; no such TRAY, DANCER, PLACE, GAP; "
                + "one and himself where two must be. 2 the TRAY is MISSING. 3 a place that the TRAY has not, or too few numbers. "
                + "4 one too many. 5 a number in a TRAY that can't be. 6 there is none such. 7 it can't be. "
                + "8 TRAYS are of unlike sorts. 9 a FAULT. 0 else.");
        trays();
        texts();
        questions();
        deeds();
        colours();
        ahead();
        dances();
        seen();
        odds();
        feasts();
        marks();
        granted();
        everyStatusIsMet();
        check.says("With another STATUS than 0 a call gives NONE, or false, and changes nothing else "
                + "(but green(), feasts() with 9 the tape, and what fault() tells).");
        twinsCanDiffer();
        faultyTexts();
        check.says("status(), top(), bottom(), feed(), fault() have none.");
        withoutStatus();
    }

    /** A refused call on a rich object that is prepared first; others: what else holds, but comes behind. */
    private void refused(String name, int status, List<Integer> others, Twins.Deed prepare, Twins.Deed deed) {
        MaypoleGreen x = Twins.rich();
        prepare.on(x);
        check.due(name + " gives", deed.on(x), YES_OR_NO.contains(name) ? 0 : MaypoleGreen.NONE);
        check.due(name + ": status()", x.status(), status);
        check.due(name + " with " + status + " changes nothing", Twins.changesNothing(prepare, deed, status != 9), true);
        met.computeIfAbsent(name, key -> new TreeSet<>()).add(status);
        for (int other : others) {
            twos.computeIfAbsent(name, key -> new TreeSet<>()).add(status + " ahead of " + other);
        }
    }

    private void refused(String name, int status, Twins.Deed deed) {
        refused(name, status, List.of(), NOTHING, deed);
    }

    private static long bit(boolean yes) {
        return yes ? 1 : 0;
    }

    private void trays() {
        refused("tray", 1, x -> bit(x.tray(-1, 0, 1)));
        refused("tray", 1, x -> bit(x.tray(4, 0, 1)));
        refused("tray", 1, x -> bit(x.tray(0, -1, 1)));
        refused("tray", 1, x -> bit(x.tray(0, 4, 1)));
        refused("tray", 1, x -> bit(x.tray(0, 0, -1)));
        refused("tray", 1, x -> bit(x.tray(0, 0, 61)));
        refused("write", 1, List.of(2, 3), NOTHING, x -> bit(x.write(4, -1, 7)));
        refused("write", 1, x -> bit(x.write(-1, 0, 7)));
        refused("write", 2, List.of(3), NOTHING, x -> bit(x.write(3, -1, 7)));
        refused("write", 3, x -> bit(x.write(0, 8, 7)));
        refused("write", 3, x -> bit(x.write(0, -1, 7)));
        refused("write", 3, x -> bit(x.write(2, 0, 7)));
        refused("read", 1, List.of(2, 3), NOTHING, x -> x.read(4, -1));
        refused("read", 1, x -> x.read(-1, 0));
        refused("read", 2, List.of(3), NOTHING, x -> x.read(3, 99));
        refused("read", 3, x -> x.read(0, 8));
        refused("read", 3, x -> x.read(0, -1));
        refused("pour", 1, List.of(2), NOTHING, x -> bit(x.pour(3, -1, 0, 0, 1)));
        refused("pour", 1, List.of(8, 3), NOTHING, x -> bit(x.pour(0, 99, 1, -1, 1)));
        refused("pour", 1, List.of(3), NOTHING, x -> bit(x.pour(0, 99, 0, 0, -1)));
        refused("pour", 1, x -> bit(x.pour(4, 0, 0, 0, 1)));
        refused("pour", 1, x -> bit(x.pour(0, 0, -1, 0, 1)));
        refused("pour", 2, List.of(8, 3), NOTHING, x -> bit(x.pour(3, 0, 1, 99, 1)));
        refused("pour", 2, List.of(3), NOTHING, x -> bit(x.pour(0, 99, 3, 0, 0)));
        refused("pour", 8, List.of(3), NOTHING, x -> bit(x.pour(0, 99, 1, 0, 1)));
        refused("pour", 8, x -> bit(x.pour(0, 0, 1, 0, 0)));
        refused("pour", 3, x -> bit(x.pour(0, 1, 0, 0, 8)));
        refused("pour", 3, x -> bit(x.pour(0, 0, 2, 0, 1)));
        refused("pour", 3, x -> bit(x.pour(2, 0, 0, 0, 1)));
        refused("pour", 3, x -> bit(x.pour(0, Integer.MAX_VALUE, 0, 0, Integer.MAX_VALUE)));
        refused("pour", 3, x -> bit(x.pour(0, 0, 0, Integer.MAX_VALUE, 1)));
    }

    private void texts() {
        refused("green", 1, x -> x.green(-1));
        refused("green", 1, List.of(9), x -> x.feed(1, 2, 3, 4, 5), x -> x.green(41));
        refused("green", 9, x -> x.green(20));
        refused("green", 9, x -> x.green(19));
        refused("feasts", 1, x -> x.feasts(-1));
        refused("feasts", 1, List.of(9), x -> x.feed(1, 2, 3, 4, 5), x -> x.feasts(41));
        refused("feasts", 1, List.of(9), Refusals::feedZeros, x -> x.feasts(301));
        refused("feasts", 9, List.of(), Refusals::feedZeros, x -> x.feasts(300));
        refused("feasts", 9, x -> x.feasts(19));
    }

    private static long feedZeros(MaypoleGreen x) {
        for (int k = 0; k < 16; k++) {
            x.feed(0, 0, 0, 0, 0);
        }
        return 0;
    }

    private void questions() {
        refused("told", 1, x -> x.told(-1));
        refused("told", 1, x -> x.told(10));
        refused("dancer", 1, x -> x.dancer(-1, 0));
        refused("dancer", 1, x -> x.dancer(5, 0));
        refused("dancer", 1, x -> x.dancer(0, -1));
        refused("dancer", 1, x -> x.dancer(0, 5));
        refused("place", 1, x -> x.place(-1));
        refused("place", 1, x -> x.place(5));
        refused("plait", 1, List.of(6), NOTHING, x -> x.plait(99, 7));
        refused("plait", 1, List.of(6), NOTHING, x -> x.plait(-1, -1));
        refused("plait", 1, x -> x.plait(0, 7));
        refused("plait", 6, x -> x.plait(-1, 6));
        refused("plait", 6, x -> x.plait(x.told(2), 0));
        refused("shows", 1, List.of(6), NOTHING, x -> x.shows(5));
        refused("shows", 1, x -> x.shows(-1));
        refused("shows", 6, List.of(), Refusals::undoAll, x -> x.shows(4));
        refused("passes", 1, x -> x.passes(-1));
        refused("passes", 1, x -> x.passes(5));
    }

    private static long undoAll(MaypoleGreen x) {
        while (x.told(2) > 0) {
            x.back();
        }
        return 0;
    }

    /** 40 PASSES; some of the five have much ribbon left. */
    private static long fillPlait(MaypoleGreen x) {
        x.rule(4, 40);
        undoAll(x);
        for (int k = 0; k < 40; k++) {
            x.pass(k % 2 * 2, true);
        }
        return 0;
    }

    private void deeds() {
        refused("pass", 1, List.of(7), Refusals::fillPlait, x -> x.pass(5, true));
        refused("pass", 1, List.of(7), Refusals::fillPlait, x -> x.pass(-1, false));
        refused("pass", 7, List.of(), Refusals::fillPlait, x -> x.pass(4, true));
        refused("pass", 7, List.of(), x -> undoAll(x) + bit(x.rule(4, 1)) + x.pass(0, true), x -> x.pass(0, true));
        refused("pass", 7, List.of(), x -> undoAll(x) + bit(x.rule(4, 1)) + x.pass(0, true), x -> x.pass(4, false));
        refused("back", 7, List.of(), Refusals::undoAll, x -> x.back());
        refused("weave", 7, List.of(), x -> undoAll(x) + bit(x.rule(4, 1)) + x.weave(), x -> x.weave());
        refused("weave", 7, List.of(), x -> x.green(0), x -> x.weave());
        refused("weave", 7, List.of(), x -> x.green(0) + x.come(1), x -> x.weave());
        refused("come", 1, x -> x.come(-1));
        refused("come", 1, List.of(4), Refusals::seven, x -> x.come(6));
        refused("come", 1, List.of(4, 7), x -> seven(x) + x.pass(0, true), x -> x.come(6));
        refused("come", 4, List.of(), Refusals::seven, x -> x.come(0));
        refused("come", 4, List.of(7), x -> seven(x) + x.pass(0, true), x -> x.come(0));
        refused("come", 7, x -> x.come(0));
        refused("come", 7, List.of(), x -> undoAll(x) + x.pass(0, true) + x.pass(0, true), x -> x.come(5));
        refused("rule", 1, x -> bit(x.rule(3, -1)));
        refused("rule", 1, x -> bit(x.rule(3, 17)));
        refused("rule", 1, x -> bit(x.rule(4, 0)));
        refused("rule", 1, x -> bit(x.rule(4, 41)));
        refused("rule", 1, x -> bit(x.rule(2, 5)));
        refused("rule", 1, x -> bit(x.rule(5, 5)));
    }

    private static long seven(MaypoleGreen x) {
        undoAll(x);
        return x.come(3) + x.come(3);
    }

    private void colours() {
        refused("paint", 1, x -> x.paint(-1, 0));
        refused("paint", 1, x -> x.paint(5, 0));
        refused("paint", 1, x -> x.paint(0, -1));
        refused("paint", 1, x -> x.paint(0, 6));
        refused("trade", 1, List.of(7), NOTHING, x -> bit(x.trade(0, 0)));
        refused("trade", 1, x -> bit(x.trade(-1, 0)));
        refused("trade", 1, x -> bit(x.trade(0, 5)));
        refused("trade", 7, List.of(), x -> x.paint(0, 3) + x.paint(4, 3), x -> bit(x.trade(0, 4)));
    }

    private void ahead() {
        refused("bound", 1, x -> x.bound(-1));
        refused("bound", 1, x -> x.bound(5));
        refused("homewardAt", 1, List.of(6), NOTHING, x -> x.homewardAt(-1));
        refused("homewardAt", 6, x -> x.homewardAt(x.homeward()));
        refused("homewardAt", 6, x -> x.homewardAt(Integer.MAX_VALUE));
        refused("meet", 1, x -> x.meet(2, 2));
        refused("meet", 1, x -> x.meet(-1, 2));
        refused("meet", 1, x -> x.meet(2, 5));
    }

    /** A call by a TRAY and how many of its numbers. */
    private interface ByTray {
        long on(MaypoleGreen x, int tray, int n);
    }

    /** What all calls with a TRAY of numbers have; far: so many that TRAY 0 has too few. */
    private void byTray(String name, List<Integer> behind, int most, int far, ByTray act) {
        for (int wrong : new int[] {-1, most + 1, Integer.MIN_VALUE, Integer.MAX_VALUE}) {
            refused(name, 1, wrong > 0 ? List.of(3, 5) : List.of(), NOTHING, x -> act.on(x, 0, wrong));
            refused(name, 1, List.of(2), NOTHING, x -> act.on(x, 3, wrong));
        }
        refused(name, 1, List.of(2, 3, 5), NOTHING, x -> act.on(x, 4, 1));
        refused(name, 1, List.of(2, 3, 5), NOTHING, x -> act.on(x, -1, 1));
        refused(name, 2, List.of(3, 5), NOTHING, x -> act.on(x, 3, 1));
        refused(name, 2, behind, NOTHING, x -> act.on(x, 3, 0));
        refused(name, 3, List.of(5), NOTHING, x -> act.on(x, 0, far));
        refused(name, 3, behind, NOTHING, x -> act.on(x, 2, 1));
    }

    private void dances() {
        // TRAY 0 has 0, 5, 2, 300, -1, ..: 300 and -1 are no PASSES
        byTray("same", List.of(), 40, 9, (x, tray, n) -> x.same(tray, n));
        byTray("apart", List.of(), 40, 9, (x, tray, n) -> x.apart(tray, n));
        byTray("slips", List.of(), 40, 9, (x, tray, n) -> x.slips(tray, n));
        byTray("slipAt", List.of(6), 40, 9, (x, tray, n) -> x.slipAt(tray, n, 99));
        refused("same", 5, x -> x.same(0, 4));
        refused("same", 5, x -> x.same(0, 8));
        refused("apart", 5, x -> x.apart(0, 4));
        refused("slips", 5, x -> x.slips(0, 4));
        refused("slipAt", 5, List.of(6), NOTHING, x -> x.slipAt(0, 4, 99));
        refused("slipAt", 1, List.of(2, 6), NOTHING, x -> x.slipAt(3, 4, -1));
        refused("slipAt", 1, List.of(5, 6), NOTHING, x -> x.slipAt(0, 4, -1));
        refused("slipAt", 6, x -> x.slipAt(0, 3, 3));
        refused("slipAt", 6, x -> x.slipAt(2, 0, 0));
        // 10 is the first that is none of five GAPS' PASSES
        refused("same", 5, List.of(), x -> bit(x.write(0, 0, 10)), x -> x.same(0, 1));
        refused("same", 5, List.of(), x -> x.green(0), x -> x.same(0, 1));
    }

    private void seen() {
        byTray("fits", List.of(), 20, 5, (x, tray, n) -> x.fits(tray, n, 1));
        byTray("fitsAt", List.of(6), 20, 5, (x, tray, n) -> x.fitsAt(tray, n, 1, 99));
        // there is nobody, so no row fits by 1
        for (int wrong : new int[] {-1, 5}) {
            refused("fits", 1, List.of(2), NOTHING, x -> x.fits(3, 0, wrong));
            refused("fitsAt", 1, List.of(2, 6), NOTHING, x -> x.fitsAt(3, 0, wrong, 0));
            refused("ask", 1, List.of(2, 6), x -> x.green(0), x -> x.ask(3, 0, wrong));
        }
        byTray("ask", List.of(6), 20, 5, (x, tray, n) -> x.ask(tray, n, 0));
        // GAP 2, COLOUR 300; then GAP -1
        refused("fits", 5, x -> x.fits(0, 2, 1));
        refused("fits", 5, List.of(), x -> bit(x.write(0, 3, 6)), x -> x.fits(0, 3, 1));
        refused("fits", 5, List.of(), x -> bit(x.write(0, 0, 5)), x -> x.fits(0, 1, 1));
        refused("fits", 5, List.of(), x -> bit(x.write(0, 1, 7)), x -> x.fits(0, 1, 1));
        refused("fitsAt", 5, List.of(6), NOTHING, x -> x.fitsAt(0, 2, 1, 1));
        refused("fitsAt", 1, List.of(5, 6), NOTHING, x -> x.fitsAt(0, 2, 1, -1));
        refused("fitsAt", 6, x -> x.fitsAt(0, 0, 2, 2));
        refused("fitsAt", 6, x -> x.fitsAt(2, 0, 0, 0));
        refused("fitsAt", 6, List.of(), x -> bit(x.write(0, 0, 4)) + bit(x.write(0, 2, 4)) + bit(x.write(0, 3, 4)),
                x -> x.fitsAt(0, 2, 1, 0));
        refused("ask", 5, List.of(6), x -> x.green(0), x -> x.ask(0, 1, 1));
        refused("ask", 6, x -> x.ask(2, 0, 0));
        refused("ask", 6, List.of(), x -> x.green(0), x -> x.ask(2, 0, 1));
        refused("game", 1, x -> x.game(-1));
        refused("game", 1, x -> x.game(4));
        refused("moveOf", 1, List.of(6), x -> x.green(0), x -> x.moveOf(0));
        refused("moveOf", 1, x -> x.moveOf(-1));
        refused("moveOf", 1, x -> x.moveOf(4));
        refused("moveOf", 6, List.of(), x -> x.green(0), x -> x.moveOf(3));
    }

    private void odds() {
        refused("slipped", 1, x -> bit(x.slipped(-1, 0)));
        refused("slipped", 1, x -> bit(x.slipped(13, 0)));
        refused("slipped", 1, x -> bit(x.slipped(0, -1)));
        refused("slipped", 1, x -> bit(x.slipped(0, 13)));
        refused("drift", 1, x -> bit(x.drift(5, 0, 0)));
        refused("drift", 1, x -> bit(x.drift(0, 5, 0)));
        refused("drift", 1, x -> bit(x.drift(0, 0, 6)));
        refused("drift", 1, x -> bit(x.drift(0, 0, -1)));
        refused("drift", 1, List.of(6), x -> x.green(0), x -> bit(x.drift(0, 0, 1)));
        refused("drift", 1, List.of(6), x -> x.green(0) + x.come(1), x -> bit(x.drift(0, 1, 1)));
        refused("drift", 1, List.of(6), x -> x.green(0) + x.come(1), x -> bit(x.drift(0, 0, 6)));
        refused("drift", 6, List.of(), x -> x.green(0) + x.come(1), x -> bit(x.drift(0, 0, 1)));
        refused("share", 1, List.of(6), Refusals::undoAll, x -> bit(x.share(5)));
        refused("share", 1, x -> bit(x.share(-1)));
        refused("share", 6, List.of(), Refusals::undoAll, x -> bit(x.share(0)));
        refused("copyShows", 1, List.of(2, 3), NOTHING, x -> x.copyShows(4));
        refused("copyShows", 1, x -> x.copyShows(-1));
        refused("copyShows", 2, List.of(3), NOTHING, x -> x.copyShows(3));
        refused("copyShows", 3, x -> x.copyShows(1));
        refused("copyShows", 3, List.of(), x -> bit(x.tray(1, 0, 4)), x -> x.copyShows(1));
    }

    private void feasts() {
        refused("live", 1, x -> x.live(-1));
        refused("live", 1, List.of(6), x -> x.green(0), x -> x.live(10000));
        refused("live", 6, List.of(), x -> x.green(0), x -> x.live(0));
        refused("lived", 1, x -> x.lived(-1));
        refused("lived", 1, x -> x.lived(5));
        refused("mean", 1, x -> bit(x.mean(-1, 1)));
        refused("mean", 1, x -> bit(x.mean(10000, 1)));
        refused("mean", 1, x -> bit(x.mean(0, 0)));
        refused("mean", 1, x -> bit(x.mean(0, 21)));
        refused("mean", 1, x -> bit(x.mean(9999, 2)));
        refused("mean", 1, x -> bit(x.mean(Integer.MAX_VALUE, 20)));
        refused("mean", 1, List.of(6), x -> x.green(0), x -> bit(x.mean(9981, 20)));
        refused("mean", 6, List.of(), x -> x.green(0), x -> bit(x.mean(0, 1)));
        // a rich object has lived: these have not
        MaypoleGreen x = Check.of(Check.ring(3) + "pass 0 over;");
        MaypoleGreen other = Check.of(Check.ring(3) + "pass 0 over;");
        check.none(x, "lived(5) ahead of any live()", x.lived(5), 1);
        check.none(x, "lived(4) ahead of any live()", x.lived(4), 6);
        check.due("lived() with 6 changes nothing", Twins.answers(x, true).equals(Twins.answers(other, true)), true);
        met.get("lived").add(6);
        twos.computeIfAbsent("lived", key -> new HashSet<>()).add("1 ahead of 6");
    }

    private void marks() {
        refused("mark", 4, List.of(), x -> x.mark(), x -> x.mark());
        refused("undo", 6, List.of(), x -> x.undo() + x.undo(), x -> x.undo());
    }

    private void fine(String name, long answer, MaypoleGreen x) {
        check.due(name + ": status()", x.status(), 0);
        check.due(name + " gives", answer >= 0, true);
        met.computeIfAbsent(name, key -> new TreeSet<>()).add(0);
    }

    /** Each call once with STATUS 0. */
    private void granted() {
        MaypoleGreen x = Twins.rich();
        fine("tray", bit(x.tray(3, 0, 60)), x);
        fine("write", bit(x.write(0, 7, 1)), x);
        fine("read", x.read(0, 7), x);
        fine("pour", bit(x.pour(0, 0, 0, 1, 7)), x);
        fine("feasts", x.feasts(20), x);
        fine("told", x.told(9), x);
        fine("dancer", x.dancer(4, 4), x);
        fine("place", x.place(4), x);
        fine("plait", x.plait(0, 6), x);
        fine("shows", x.shows(x.plait(0, 0)), x);
        fine("passes", x.passes(4), x);
        fine("back", x.back(), x);
        fine("pass", x.pass(2, true), x);
        fine("weave", x.weave(), x);
        fine("paint", x.paint(4, 1), x);
        fine("trade", bit(x.trade(4, 3)), x);
        fine("rule", bit(x.rule(4, 40)), x);
        fine("bound", x.bound(4), x);
        fine("homeward", x.homeward(), x);
        fine("homewardAt", x.homewardAt(0), x);
        fine("meet", x.meet(4, 0), x);
        Check.fill(x, 0, 0, 0, 6, 6);
        fine("same", x.same(0, 2), x);
        fine("apart", x.apart(0, 2), x);
        fine("slips", x.slips(0, 2), x);
        fine("fits", x.fits(0, 0, 2), x);
        fine("fitsAt", x.fitsAt(0, 0, 2, 1), x);
        fine("ask", x.ask(0, 0, 2), x);
        fine("game", x.game(3), x);
        fine("moveOf", x.moveOf(3), x);
        fine("slipped", bit(x.slipped(12, 12)), x);
        fine("drift", bit(x.drift(4, 4, 5)), x);
        fine("share", bit(x.share(4)), x);
        fine("copyShows", x.copyShows(3), x);
        fine("live", x.live(9999), x);
        fine("lived", x.lived(4), x);
        fine("mean", bit(x.mean(9980, 20)), x);
        fine("mark", x.mark(), x);
        fine("undo", x.undo(), x);
        fine("green", x.green(0), x);
        fine("come", x.come(5), x);
        fine("come", x.come(5), x);
        x.pass(0, true);
        Check.fill(x, 0, 0);
        fine("slipAt", x.slipAt(0, 1, 0), x);
    }

    private void everyStatusIsMet() {
        document.statuses().forEach((name, statuses) -> {
            if (!Set.of("MaypoleGreen", "status", "top", "bottom", "feed", "fault").contains(name)) {
                Set<Integer> due = new TreeSet<>(statuses);
                due.add(0);
                check.due("STATUSES of " + name + " " + due + ", met: " + met.get(name), due.equals(met.get(name)), true);
                for (int first = 0; first < statuses.size(); first++) {
                    for (int second = first + 1; second < statuses.size(); second++) {
                        String two = statuses.get(first) + " ahead of " + statuses.get(second);
                        check.due(name + ": " + two, twos.getOrDefault(name, Set.of()).contains(two), true);
                    }
                }
            }
        });
        check.due("calls with a STATUS", met.size(), 41);
    }

    /** So that changesNothing() is known to see what changes. */
    private void twinsCanDiffer() {
        Twins.Deed[] deeds = {
            x -> bit(x.tray(3, 0, 0)), x -> bit(x.tray(2, 2, 0)), x -> bit(x.tray(1, 2, 4)), x -> bit(x.tray(1, 3, 3)),
            x -> bit(x.write(0, 7, 4)), x -> bit(x.pour(0, 0, 0, 1, 7)), x -> x.feed(0, 0, 0, 0, 0), x -> x.green(0),
            x -> x.feasts(20), x -> x.feasts(19), x -> x.pass(0, true), x -> x.back(), x -> x.weave(), x -> x.paint(0, 4),
            x -> bit(x.trade(0, 1)), x -> bit(x.rule(3, 6)), x -> bit(x.rule(4, 10)), x -> bit(x.slipped(2, 1)),
            x -> bit(x.share(1)), x -> x.live(4), x -> bit(x.mean(1, 3)), x -> x.mark(), x -> x.undo(),
            x -> undoAll(x) + x.come(1), x -> x.copyShows(0)
        };
        for (int k = 0; k < deeds.length; k++) {
            check.due("deed " + k + " is seen", Twins.changesNothing(NOTHING, deeds[k], true), false);
        }
    }

    /** With STATUS 9 the tape is empty and the FAULT told; with STATUS 1 neither. */
    private void faultyTexts() {
        MaypoleGreen x = Twins.rich();
        check.none(x, "green(21)", x.green(21), 1);
        check.due("fault(0)", x.fault(0), 3);
        check.due("fault(1)", x.fault(1), 6);
        check.due("feed", x.feed(0, 0, 0, 0, 0), 40);
        check.none(x, "green(40)", x.green(40), 9);
        check.due("fault(0)", x.fault(0), 2);
        check.due("fault(1)", x.fault(1), 0);
        check.due("feed", x.feed(0, 0, 0, 0, 0), 20);
        check.none(x, "feasts(21)", x.feasts(21), 1);
        check.due("fault(0)", x.fault(0), 2);
        check.none(x, "feasts(20)", x.feasts(20), 9);
        check.due("fault(0)", x.fault(0), 1);
        check.due("fault(1)", x.fault(1), 0);
        check.due("feed", x.feed(0, 0, 0, 0, 0), 20);
        check.due("told(0)", x.told(0), 5);
        check.due(x, "the feasts ahead are there", x.live(77) > 0, true, 0);
    }

    private void withoutStatus() {
        MaypoleGreen x = Check.of(Check.ring(2));
        for (int status : new int[] {0, 1, 6, 7}) {
            long ignored = status == 0 ? x.told(0) : status == 1 ? x.told(10) : status == 6 ? x.shows(0) : x.back();
            check.due("status() behind " + ignored, x.status(), status);
            x.status();
            x.top();
            x.bottom();
            x.feed(0, 0, 0, 0, 0);
            x.fault(0);
            x.fault(1);
            x.fault(2);
            check.due("status()", x.status(), status);
        }
        for (int k = 0; k < 60; k++) {
            x.feed(0, 0, 0, 0, 0);
        }
        check.due("feed of a full tape", x.feed(0, 0, 0, 0, 0), -1);
        check.due("status()", x.status(), 7);
    }
}
