import java.io.IOException;
import java.lang.reflect.Method;
import java.nio.file.Files;
import java.nio.file.Path;
import java.util.ArrayList;
import java.util.List;
import java.util.Map;
import java.util.Set;
import java.util.regex.Matcher;
import java.util.regex.Pattern;

/** What stands around the Terms and the promises: "What it is", the public face, "Not promised". */
final class FaceBounds {
    private static final int MOST_CALLS = 512;

    private final Check check;
    private final Document document;
    private final Path source;

    FaceBounds(Check check, Document document, Path source) {
        this.check = check;
        this.document = document;
        this.source = source;
    }

    void run() throws IOException {
        ribbons();
        whatIsAsked();
        whatCouldBe();
        feastsAndMarks();
        manyCalls();
        dearCalls();
        groups();
        face();
        notPromised();
        laterCalls();
    }

    // ---- "What it is"

    private void ribbons() {
        check.says("A maypole: dancers in a ring round a pole, each with a ribbon of a colour, who pass each other over or under, "
                + "so that the ribbons make a plait, as a text;");
        MaypoleGreen x = check.greenFine("dancer ann colour 3; dancer bob colour 5; dancer cy colour 0;\npass 0 over; pass 2 under;", 3);
        int[] colours = {3, 5, 0};
        for (int d = 0; d < 3; d++) {
            check.due(x, "colour of " + d, x.dancer(d, 1), colours[d], 0);
        }
        // ann went over bob to place 1; bob, in place 0 then, over cy in the last gap
        check.due(x, "who went over first", x.plait(0, 2), 0, 0);
        check.due(x, "who went under first", x.plait(0, 3), 1, 0);
        check.due(x, "who went over then", x.plait(1, 2), 1, 0);
        check.due(x, "who went under then", x.plait(1, 3), 2, 0);
        check.says("passes that are undone by the opposite ones when nothing lies over them, ribbons that run short;");
        check.due(x, "gap 2 lies over gap 0", x.pass(0, false), 3, 0);
        check.due(x, "over undoes under", x.pass(0, true), 2, 0);
        check.due(x, "over undoes under", x.pass(2, true), 1, 0);
        check.due(x, "under undoes over", x.pass(0, false), 0, 0);
        MaypoleGreen y = check.greenFine("long 1;" + Check.ring(3) + "pass 0 over;", 3);
        check.none(y, "a has no ribbon", y.pass(1, true), 7);
        check.none(y, "b has no ribbon", y.pass(2, true), 7);
    }

    private void whatIsAsked() {
        MaypoleGreen x = Check.of(Check.ring(4) + "pass 0 over;pass 2 over;pass 1 over;");
        check.says("what of the plait can be undone, its rows, what holds what, which colours show in each gap,");
        int[] free = {0, 0, 1};
        int[] rows = {1, 1, 2};
        int[] held = {2, 2, 1};
        for (int k = 0; k < 3; k++) {
            check.due(x, "can be undone: " + k, x.plait(k, 5), free[k], 0);
            check.due(x, "row of " + k, x.plait(k, 4), rows[k], 0);
            check.due(x, "held by " + k, x.plait(k, 6), held[k], 0);
        }
        // a over b, c over d, a (in place 1) over d (in place 2)
        int[] shown = {0, 0, 2};
        for (int gap = 0; gap < 3; gap++) {
            check.due(x, "shows(" + gap + ")", x.shows(gap), shown[gap], 0);
        }
        check.none(x, "shows(3)", x.shows(3), 6);
        check.says("the fewest passes home,");
        check.due(x, "homeward()", x.homeward(), 3, 0);
        check.says("whether two dances make one plait and how far they are from each other, where one slipped,");
        Check.fill(x, 0, 5, 1, 3);
        check.due(x, "one plait", x.same(0, 3), 1, 0);
        check.due(x, "how far", x.apart(0, 2), 1, 0);
        Check.fill(x, 0, 5, 0, 3);
        check.due(x, "another plait", x.same(0, 3), 0, 0);
        check.due(x, "how far", x.apart(0, 3), 4, 0);
        check.due(x, "how often", x.slips(0, 3), 1, 0);
        check.due(x, "where", x.slipAt(0, 3, 0), 1, 0);
    }

    private void whatCouldBe() {
        MaypoleGreen x = Check.of(Check.ring(3));
        check.says("which dances show what is seen, which gap to ask,");
        // c's colour in gap 2: he goes over a there
        Check.fill(x, 0, 2, 2);
        check.due(x, "how many", x.fits(0, 1, 1), 1, 0);
        check.due(x, "the first", x.fitsAt(0, 1, 1, 0), 5, 0);
        Check.fill(x, 0, 0, 6, 1, 6);
        check.due(x, "under or over in gap 2", x.fits(0, 2, 1), 2, 0);
        check.due(x, "which gap", x.ask(0, 2, 1), 2, 0);
        check.says("games of a caller and a joker,");
        check.due(x, "the caller's colour", x.game(1), 1, 0);
        check.due(x, "the joker undoes it", x.game(2), 0, 0);
        check.due(x, "the caller's first", x.moveOf(1), 0, 0);
        check.says("odds of slips and of where one comes to;");
        check.fraction(x, "one of one", x.slipped(1, 1), 1, 8);
        check.fraction(x, "stays by the gap that is not his", x.drift(0, 0, 1), 1, 3);
    }

    private void feastsAndMarks() {
        check.says("feasts as a text, by draws;");
        MaypoleGreen x = Check.of("odds 0;" + Check.ring(3));
        check.feastFine(x, "loop 2;any;end;", 2);
        // from 0: 11493, then 37582110 leaves 29982; by 8: 1436, 3747
        check.due(x, "live(0)", x.live(0), 3, 0);
        check.due(x, "1436 by 3", x.plait(0, 0), 2, 0);
        check.due(x, "3747 by 2: over", x.plait(0, 1), 1, 0);
        check.says("marks to which all is taken back.");
        MaypoleGreen y = Check.of(Check.ring(3));
        check.due(y, "mark()", y.mark(), 1, 0);
        y.pass(0, true);
        y.paint(0, 5);
        check.due(y, "undo()", y.undo(), 0, 0);
        check.due(y, "no plait", y.told(2), 0, 0);
        check.due(y, "his colour", y.dancer(0, 1), 0, 0);
    }

    private void manyCalls() {
        check.says("An object is used for at most 512 calls after it has been made; what later calls answer is free.");
        MaypoleGreen x = new MaypoleGreen();
        x.come(1);
        x.come(2);
        for (int call = 3; call < MOST_CALLS; call++) {
            check.due("call " + call, x.pass(0, call % 2 == 1), call % 2);
        }
        check.due("call 512", x.told(6), MOST_CALLS - 3);
        // many lives, and none of their PASSES is lost
        MaypoleGreen y = Check.of("long 40;" + Check.ring(6));
        Check.feasts(y, "loop 99;back;weave 1;back;end;");
        int told = 0;
        for (int call = 20; call < MOST_CALLS; call += 2) {
            y.live(call);
            told += y.lived(1);
        }
        check.due("told(6) behind many lives", y.told(6), told);
    }

    /** The tape, the TRAYS and the MARKS are used again and again, and are as they were at first. */
    private void dearCalls() {
        MaypoleGreen x = new MaypoleGreen();
        String text = "odds 3;" + Check.ring(7) + "pass 6 over;";
        for (int round = 0; round < 24; round++) {
            check.due(x, "green", Check.green(x, text), 7, 0);
            check.due(x, "feasts", Check.feasts(x, "weave 1;any;"), 2, 0);
            check.due(x, "tray", x.tray(round % 4, round % 3, 60), true, 0);
            check.due(x, "mark", x.mark(), 1, 0);
            check.due(x, "live", x.live(round), 2, 0);
            check.due(x, "undo", x.undo(), 0, 0);
            check.due(x, "told(2)", x.told(2), 1, 0);
            check.due(x, "told(6)", x.told(6), 0, 0);
        }
    }

    // ---- the public face

    private List<String> callsInSource() throws IOException {
        List<String> names = new ArrayList<>();
        Matcher m = Pattern.compile("(?m)^    public \\w+ (\\w+)\\(").matcher(Files.readString(source));
        while (m.find()) {
            names.add(m.group(1));
        }
        return names;
    }

    private void groups() throws IOException {
        List<String> grouped = new ArrayList<>();
        for (Map.Entry<String, List<String>> group : document.groups().entrySet()) {
            check.says("Ahead of the calls `" + String.join("`, `", group.getValue()) + "` the interface says: " + group.getKey());
            grouped.addAll(group.getValue());
            check.due("a heading", group.getKey().startsWith("---- "), true);
            List<String> names = callsInSource();
            int at = names.indexOf(group.getValue().get(0));
            check.due("is there: " + group.getValue(), at >= 0, true);
            List<String> found = names.subList(Math.max(at, 0), Math.min(names.size(), Math.max(at, 0) + group.getValue().size()));
            check.due("stand together: " + found, found.equals(group.getValue()), true);
        }
        List<String> all = new ArrayList<>(List.of("status", "top", "bottom"));
        all.addAll(grouped);
        check.due("the calls in the document's order: " + all, callsInSource().equals(all), true);
    }

    /** Each member stands in the source as in the code block, and each promise tells the signature that is there. */
    private void face() throws IOException {
        String text = Files.readString(source);
        check.due("members", document.face().size(), 1 + document.signatures().size());
        for (String member : document.face()) {
            boolean constant = member.contains(" = ");
            check.due(member, text.contains("\n    " + member + (constant ? ";\n" : " {\n")), true);
        }
        check.due("promises", document.signatures().size(), 47);
        for (int k = 0; k < document.signatures().size(); k++) {
            String due = "public " + document.signatures().get(k);
            check.due("promise " + (k + 1) + ": " + due, document.face().get(k + 1).equals(due), true);
        }
        check.due("the class", text.contains("\npublic final class MaypoleGreen {\n"), true);
    }

    // ---- "Not promised"

    private void notPromised() {
        check.says("How the state is held inside the object is free, as are the speed of each call, the text of toString and "
                + "the behaviour of equals and hashCode.");
        for (Method method : MaypoleGreen.class.getDeclaredMethods()) {
            check.due("of its own: " + method, Set.of("toString", "equals", "hashCode").contains(method.getName()), false);
        }
        check.says("Use of one object from several threads at once is not promised to be safe.");
        // but of several objects, by turns: none knows of another
        MaypoleGreen one = Twins.rich();
        MaypoleGreen other = new MaypoleGreen();
        check.due("told(0) of the other", other.told(0), 0);
        other.come(1);
        other.tray(0, 0, 3);
        other.mark();
        Check.green(other, "odds 16;long 40;" + Check.ring(7));
        Check.feasts(other, "weave 9;any;");
        other.live(3);
        check.due("one is as it was", Twins.answers(one, true).equals(Twins.answers(Twins.rich(), true)), true);
    }

    /** What they answer is free, but LANGUAGE.md lets none throw. */
    private void laterCalls() {
        check.says("Nothing is promised beyond the answers and state changes described above, "
                + "and nothing about an object after its 512th call.");
        MaypoleGreen x = Check.of("long 40;" + Check.ring(7));
        Check.feasts(x, "loop 99;weave 9;any;back;end;");
        for (int call = 0; call < 4 * MOST_CALLS; call++) {
            x.live(call);
            x.mark();
            x.feed(call, call, call, call, call);
        }
        check.due("it still ends", x.told(0), 7);
    }
}
