import java.util.ArrayDeque;
import java.util.ArrayList;
import java.util.Arrays;
import java.util.HashMap;
import java.util.HashSet;
import java.util.List;
import java.util.Map;
import java.util.Set;
import java.util.TreeSet;
import java.util.function.Supplier;
import java.util.regex.Matcher;
import java.util.regex.Pattern;

/**
 * The document once more, word by word and without a thought for speed, so that ModelTest
 * can hold the class against it: nothing is remembered that can be worked out anew.
 */
final class PlainGreen {
    /** A call's way out with another STATUS than 0. */
    private static final class Bad extends RuntimeException {
        final int status;

        Bad(int status) {
            super(null, null, false, false);
            this.status = status;
        }
    }

    /** A FAULT of a text. */
    private static final class Fault extends RuntimeException {
        final int kind;
        final int place;

        Fault(int kind, int place) {
            super(null, null, false, false);
            this.kind = kind;
            this.place = place;
        }
    }

    record Pass(int gap, boolean over, int upper, int lower) { }

    record Token(char sort, String text, int place) { }

    record Step(String word, List<String> rest, List<Step> within) { }

    private static final Set<String> RESERVED = Set.of("odds", "long", "dancer", "colour", "pass", "over", "under",
            "back", "weave", "paint", "any", "when", "home", "at", "shows", "plait", "loop", "end", "stop");

    /** All that a MARK keeps. */
    private static final class State {
        int odds = 2;
        int longest = 12;
        int done = 0;
        List<String> names = new ArrayList<>();
        List<Integer> colours = new ArrayList<>();
        List<Integer> standing = new ArrayList<>();
        List<Pass> plait = new ArrayList<>();
        List<Step> feasts = null;
        int feastSteps = 0;

        State copy() {
            State c = new State();
            c.odds = odds;
            c.longest = longest;
            c.done = done;
            c.names.addAll(names);
            c.colours.addAll(colours);
            c.standing.addAll(standing);
            c.plait.addAll(plait);
            c.feasts = feasts;
            c.feastSteps = feastSteps;
            return c;
        }

        int n() {
            return standing.size();
        }

        int gaps() {
            return n() < 2 ? 0 : n() == 2 ? 1 : n();
        }

        Set<Integer> placesOf(int gap) {
            return Set.of(gap, (gap + 1) % n());
        }

        boolean touch(int a, int b) {
            Set<Integer> both = new HashSet<>(placesOf(a));
            both.retainAll(placesOf(b));
            return !both.isEmpty();
        }

        boolean liesOver(int later, int earlier) {
            return later > earlier && touch(plait.get(later).gap(), plait.get(earlier).gap());
        }

        boolean free(int k) {
            for (int j = 0; j < plait.size(); j++) {
                if (liesOver(j, k)) {
                    return false;
                }
            }
            return true;
        }

        int left(int d) {
            int in = 0;
            for (Pass p : plait) {
                if (p.upper() == d || p.lower() == d) {
                    in++;
                }
            }
            return Math.max(0, longest - in);
        }

        int latest(int gap) {
            int found = -1;
            for (int k = 0; k < plait.size(); k++) {
                if (plait.get(k).gap() == gap) {
                    found = k;
                }
            }
            return found;
        }

        void exchange(int gap) {
            int next = (gap + 1) % n();
            int a = standing.get(gap);
            standing.set(gap, standing.get(next));
            standing.set(next, a);
        }

        /** 0: it can't be, 1: it came to the PLAIT, 2: it undid one. */
        int pass(int gap, boolean over) {
            int k = latest(gap);
            if (k >= 0 && free(k) && plait.get(k).over() != over) {
                plait.remove(k);
                exchange(gap);
                done++;
                return 2;
            }
            int first = standing.get(gap);
            int second = standing.get((gap + 1) % n());
            if (plait.size() == 40 || left(first) == 0 || left(second) == 0) {
                return 0;
            }
            plait.add(new Pass(gap, over, over ? first : second, over ? second : first));
            exchange(gap);
            done++;
            return 1;
        }

        boolean back() {
            if (plait.isEmpty()) {
                return false;
            }
            exchange(plait.remove(plait.size() - 1).gap());
            done++;
            return true;
        }

        /** The kinds of what was done, as pass() tells them. */
        List<Integer> weave() {
            List<Integer> kinds = new ArrayList<>();
            List<Integer> even = new ArrayList<>();
            for (int g = 0; g < gaps(); g += 2) {
                even.add(g);
            }
            if (!even.isEmpty()) {
                int last = even.get(even.size() - 1);
                if (last != 0 && touch(last, 0)) {
                    even.remove(even.size() - 1);
                }
            }
            for (int g : even) {
                kinds.add(pass(g, true));
            }
            for (int g = 1; g < gaps(); g += 2) {
                kinds.add(pass(g, false));
            }
            kinds.removeIf(kind -> kind == 0);
            return kinds;
        }

        int shows(int gap) {
            int k = latest(gap);
            return k < 0 ? 6 : colours.get(plait.get(k).upper());
        }

        int coloursShown() {
            Set<Integer> all = new TreeSet<>();
            for (int g = 0; g < gaps(); g++) {
                all.add(shows(g));
            }
            all.remove(6);
            return all.size();
        }

        List<Integer> rows() {
            List<Integer> rows = new ArrayList<>();
            for (int k = 0; k < plait.size(); k++) {
                int greatest = 0;
                for (int j = 0; j < k; j++) {
                    if (liesOver(k, j)) {
                        greatest = Math.max(greatest, rows.get(j));
                    }
                }
                rows.add(greatest + 1);
            }
            return rows;
        }

        Set<Integer> held(Set<Integer> first) {
            Set<Integer> all = new TreeSet<>(first);
            boolean more = true;
            while (more) {
                more = false;
                for (int j = 0; j < plait.size(); j++) {
                    for (int k : new ArrayList<>(all)) {
                        if (liesOver(j, k) && all.add(j)) {
                            more = true;
                        }
                    }
                }
            }
            return all;
        }

        String word() {
            StringBuilder b = new StringBuilder();
            for (Pass p : plait) {
                b.append((char) (2 * p.gap() + (p.over() ? 1 : 0)));
            }
            return b.toString();
        }
    }

    private final long[][] trays = new long[4][];
    private final int[] sorts = new int[4];
    private final List<Byte> tape = new ArrayList<>();
    private int status = 0;
    private long top = 0;
    private long bottom = 1;
    private int faultKind = -1;
    private int faultPlace = -1;
    private State now = new State();
    private final List<State> marks = new ArrayList<>();
    private int[] lived = null;

    // ---- how calls end

    private int asInt(Supplier<Integer> call) {
        try {
            int answer = call.get();
            status = 0;
            return answer;
        } catch (Bad bad) {
            status = bad.status;
            return -1;
        }
    }

    private boolean asBoolean(Runnable call) {
        try {
            call.run();
            status = 0;
            return true;
        } catch (Bad bad) {
            status = bad.status;
            return false;
        }
    }

    private static void need(int status, boolean holds) {
        if (!holds) {
            throw new Bad(status);
        }
    }

    private static boolean in(long v, long least, long most) {
        return least <= v && v <= most;
    }

    private void fraction(long a, long b) {
        long d = java.math.BigInteger.valueOf(a).gcd(java.math.BigInteger.valueOf(b)).longValue();
        top = a / d;
        bottom = b / d;
    }

    public int status() {
        return status;
    }

    public long top() {
        return top;
    }

    public long bottom() {
        return bottom;
    }

    // ---- for ModelTest, without a STATUS

    int dancersNow() {
        return now.n();
    }

    int gapsNow() {
        return now.gaps();
    }

    int plaitNow() {
        return now.plait.size();
    }

    int codeNow(int k) {
        return now.word().charAt(k);
    }

    int shownNow(int gap) {
        return now.shows(gap);
    }

    // ---- TRAYS

    public boolean tray(int tray, int sort, int many) {
        return asBoolean(() -> {
            need(1, in(tray, 0, 3) && in(sort, 0, 3) && in(many, 0, 60));
            trays[tray] = new long[many];
            sorts[tray] = sort;
        });
    }

    public boolean write(int tray, int place, long v) {
        return asBoolean(() -> {
            need(1, in(tray, 0, 3));
            need(2, trays[tray] != null);
            need(3, in(place, 0, trays[tray].length - 1));
            int lost = 64 - (8 << sorts[tray]);
            trays[tray][place] = v << lost >> lost;
        });
    }

    public long read(int tray, int place) {
        long[] found = {-1};
        asBoolean(() -> {
            need(1, in(tray, 0, 3));
            need(2, trays[tray] != null);
            need(3, in(place, 0, trays[tray].length - 1));
            found[0] = trays[tray][place];
        });
        return found[0];
    }

    public boolean pour(int from, int place, int to, int at, int many) {
        return asBoolean(() -> {
            need(1, in(from, 0, 3) && in(to, 0, 3) && place >= 0 && at >= 0 && many >= 0);
            need(2, trays[from] != null && trays[to] != null);
            need(8, sorts[from] == sorts[to]);
            need(3, (long) place + many <= trays[from].length && (long) at + many <= trays[to].length);
            long[] were = trays[from].clone();
            for (int k = 0; k < many; k++) {
                trays[to][at + k] = were[place + k];
            }
        });
    }

    // ---- texts

    public int feed(int a, int b, int c, int d, int e) {
        if (tape.size() + 20 > 900) {
            return -1;
        }
        for (int v : new int[] {a, b, c, d, e}) {
            tape.add((byte) (v >>> 24));
            tape.add((byte) (v >>> 16));
            tape.add((byte) (v >>> 8));
            tape.add((byte) v);
        }
        return tape.size();
    }

    private String takeTape(int n) {
        StringBuilder b = new StringBuilder();
        for (int k = 0; k < n; k++) {
            b.append((char) (tape.get(k) & 255));
        }
        tape.clear();
        return b.toString();
    }

    private static List<Token> tokens(String text) {
        List<Token> all = new ArrayList<>();
        Matcher m = Pattern.compile("(?<w>[a-z]+)|(?<n>[0-9]+)|(?<s>[;<>=])|(?<b>[ \\n]+)|(?<x>(?s:.))").matcher(text);
        while (m.find()) {
            if (m.group("w") != null) {
                all.add(new Token('w', m.group(), m.start()));
            } else if (m.group("n") != null) {
                all.add(new Token(m.group().length() > 4 ? 'x' : 'n', m.group(), m.start()));
            } else if (m.group("s") != null) {
                all.add(new Token('s', m.group(), m.start()));
            } else if (m.group("x") != null) {
                all.add(new Token('x', m.group(), m.start()));
            }
        }
        all.add(new Token('e', "", text.length()));
        return all;
    }

    private final class Parser {
        final List<Token> tokens;
        final State s;
        int at = 0;
        int steps = 0;

        Parser(String text, State s) {
            this.tokens = PlainGreen.tokens(text);
            this.s = s;
        }

        Token look() {
            Token t = tokens.get(at);
            if (t.sort() == 'x') {
                throw new Fault(1, t.place());
            }
            return t;
        }

        Fault fault(int kind) {
            return new Fault(kind, look().place());
        }

        String word(String... allowed) {
            Token t = look();
            if (t.sort() != 'w' && t.sort() != 's' || !Arrays.asList(allowed).contains(t.text())) {
                throw fault(2);
            }
            at++;
            return t.text();
        }

        int number(int least, int most) {
            Token t = look();
            if (t.sort() != 'n') {
                throw fault(2);
            }
            int v = Integer.parseInt(t.text());
            if (v < least || v > most) {
                throw fault(4);
            }
            at++;
            return v;
        }

        String name(boolean fresh) {
            Token t = look();
            if (t.sort() != 'w' || t.text().length() > 8 || RESERVED.contains(t.text())) {
                throw fault(2);
            }
            if (s.names.contains(t.text()) == fresh) {
                throw fault(3);
            }
            at++;
            return t.text();
        }

        void green() {
            Set<String> told = new HashSet<>();
            while (look().sort() != 'e') {
                int start = at;
                String w = word("odds", "long", "dancer", "pass");
                boolean behindPass = told.contains("pass");
                boolean again = told.contains(w) && (w.equals("odds") || w.equals("long"));
                boolean late = behindPass && (w.equals("long") || w.equals("dancer"));
                if (again || late) {
                    throw new Fault(5, tokens.get(start).place());
                }
                if (w.equals("dancer") && s.n() == 7) {
                    throw new Fault(6, tokens.get(start).place());
                }
                told.add(w);
                if (w.equals("odds")) {
                    s.odds = number(0, 16);
                } else if (w.equals("long")) {
                    s.longest = number(1, 40);
                } else if (w.equals("dancer")) {
                    String name = name(true);
                    word("colour");
                    s.colours.add(number(0, 5));
                    s.names.add(name);
                    s.standing.add(s.standing.size());
                } else {
                    int gap = number(0, s.gaps() - 1);
                    boolean over = word("over", "under").equals("over");
                    if (s.pass(gap, over) == 0) {
                        at--;
                        throw fault(5);
                    }
                }
                word(";");
            }
            s.done = 0;
        }

        List<Step> feasts(int depth) {
            List<Step> all = new ArrayList<>();
            while (look().sort() != 'e') {
                if (depth > 0 && look().text().equals("end")) {
                    return all;
                }
                Token t = look();
                String w = word("pass", "back", "weave", "paint", "any", "when", "loop", "stop");
                if (steps == 30) {
                    throw new Fault(6, t.place());
                }
                boolean opens = w.equals("when") || w.equals("loop");
                if (opens && depth == 3) {
                    throw new Fault(7, t.place());
                }
                steps++;
                List<String> rest = new ArrayList<>();
                switch (w) {
                    case "pass" -> {
                        rest.add("" + number(0, s.gaps() - 1));
                        rest.add(word("over", "under"));
                    }
                    case "weave" -> rest.add("" + number(1, 9));
                    case "loop" -> rest.add("" + number(1, 99));
                    case "paint" -> {
                        rest.add("" + s.names.indexOf(name(false)));
                        rest.add("" + number(0, 5));
                    }
                    case "when" -> test(rest);
                    default -> { }
                }
                word(";");
                List<Step> within = new ArrayList<>();
                if (opens) {
                    within = feasts(depth + 1);
                    word("end");
                    word(";");
                }
                all.add(new Step(w, rest, within));
            }
            return all;
        }

        void test(List<String> rest) {
            String w = word("home", "at", "shows", "plait");
            rest.add(w);
            switch (w) {
                case "home" -> rest.add("" + s.names.indexOf(name(false)));
                case "at" -> {
                    rest.add("" + s.names.indexOf(name(false)));
                    rest.add("" + number(0, s.n() - 1));
                }
                case "shows" -> {
                    rest.add("" + number(0, s.gaps() - 1));
                    rest.add("" + number(0, 6));
                }
                default -> {
                    rest.add(word("<", ">", "="));
                    rest.add("" + number(0, 40));
                }
            }
        }
    }

    public int green(int n) {
        return asInt(() -> {
            need(1, in(n, 0, tape.size()));
            State fresh = new State();
            readText(() -> new Parser(takeTape(n), fresh).green());
            now = fresh;
            return now.n();
        });
    }

    public int feasts(int n) {
        return asInt(() -> {
            need(1, in(n, 0, tape.size()) && n <= 300);
            readText(() -> {
                Parser p = new Parser(takeTape(n), now);
                List<Step> all = p.feasts(0);
                now.feasts = all;
                now.feastSteps = p.steps;
            });
            return now.feastSteps;
        });
    }

    private void readText(Runnable reading) {
        faultKind = 0;
        faultPlace = -1;
        try {
            reading.run();
        } catch (Fault f) {
            faultKind = f.kind;
            faultPlace = f.place;
            throw new Bad(9);
        }
    }

    public int fault(int what) {
        return what == 0 ? faultKind : what == 1 ? faultPlace : -1;
    }

    private void needDancer(int d) {
        need(1, in(d, 0, now.n() - 1));
    }

    private void needGap(int g) {
        need(1, in(g, 0, now.gaps() - 1));
    }

    public int told(int what) {
        return asInt(() -> {
            need(1, in(what, 0, 9));
            int homes = 0;
            for (int d = 0; d < now.n(); d++) {
                homes += now.standing.get(d) == d ? 1 << d : 0;
            }
            Set<Integer> free = new TreeSet<>();
            for (int k = 0; k < now.plait.size(); k++) {
                if (now.free(k)) {
                    free.add(1 << now.plait.get(k).gap());
                }
            }
            return switch (what) {
                case 0 -> now.n();
                case 1 -> now.gaps();
                case 2 -> now.plait.size();
                case 3 -> now.odds;
                case 4 -> now.longest;
                case 5 -> now.rows().stream().mapToInt(r -> r).max().orElse(0);
                case 6 -> now.done;
                case 7 -> homes;
                case 8 -> free.stream().mapToInt(g -> g).sum();
                default -> now.coloursShown();
            };
        });
    }

    public int dancer(int d, int what) {
        return asInt(() -> {
            needDancer(d);
            need(1, in(what, 0, 4));
            return switch (what) {
                case 0 -> now.standing.indexOf(d);
                case 1 -> now.colours.get(d);
                case 2 -> now.left(d);
                case 3 -> (int) now.plait.stream().filter(p -> p.upper() == d).count();
                default -> (int) now.plait.stream().filter(p -> p.lower() == d).count();
            };
        });
    }

    public int place(int place) {
        return asInt(() -> {
            need(1, in(place, 0, now.n() - 1));
            return now.standing.get(place);
        });
    }

    public int plait(int k, int what) {
        return asInt(() -> {
            need(1, in(what, 0, 6));
            need(6, in(k, 0, now.plait.size() - 1));
            Pass p = now.plait.get(k);
            return switch (what) {
                case 0 -> p.gap();
                case 1 -> p.over() ? 1 : 0;
                case 2 -> p.upper();
                case 3 -> p.lower();
                case 4 -> now.rows().get(k);
                case 5 -> now.free(k) ? 1 : 0;
                default -> now.held(Set.of(k)).size();
            };
        });
    }

    public int shows(int gap) {
        return asInt(() -> {
            needGap(gap);
            need(6, now.shows(gap) != 6);
            return now.shows(gap);
        });
    }

    public int passes(int gap) {
        return asInt(() -> {
            needGap(gap);
            return (int) now.plait.stream().filter(p -> p.gap() == gap).count();
        });
    }

    // ---- what is done

    public int pass(int gap, boolean over) {
        return asInt(() -> {
            needGap(gap);
            need(7, now.pass(gap, over) != 0);
            return now.plait.size();
        });
    }

    public int back() {
        return asInt(() -> {
            need(7, now.back());
            return now.plait.size();
        });
    }

    public int weave() {
        return asInt(() -> {
            int done = now.weave().size();
            need(7, done > 0);
            return done;
        });
    }

    public int paint(int d, int colour) {
        return asInt(() -> {
            needDancer(d);
            need(1, in(colour, 0, 5));
            return now.colours.set(d, colour);
        });
    }

    public boolean trade(int d, int other) {
        return asBoolean(() -> {
            needDancer(d);
            needDancer(other);
            need(1, d != other);
            need(7, !now.colours.get(d).equals(now.colours.get(other)));
            now.colours.set(other, now.colours.set(d, now.colours.get(other)));
        });
    }

    public int come(int colour) {
        return asInt(() -> {
            need(1, in(colour, 0, 5));
            need(4, now.n() < 7);
            need(7, now.plait.isEmpty());
            now.names.add("");
            now.colours.add(colour);
            now.standing.add(now.n());
            return now.n() - 1;
        });
    }

    public boolean rule(int what, int much) {
        return asBoolean(() -> {
            need(1, what == 3 && in(much, 0, 16) || what == 4 && in(much, 1, 40));
            if (what == 3) {
                now.odds = much;
            } else {
                now.longest = much;
            }
        });
    }

    // ---- what can be undone

    public int bound(int d) {
        return asInt(() -> {
            needDancer(d);
            Set<Integer> his = new TreeSet<>();
            for (int k = 0; k < now.plait.size(); k++) {
                if (now.plait.get(k).upper() == d || now.plait.get(k).lower() == d) {
                    his.add(k);
                }
            }
            return now.held(his).size();
        });
    }

    private static final Map<Integer, Map<List<Integer>, List<Integer>>> WAYS = new HashMap<>();

    /** By breadth from home: the first of the shortest rows from every order of n DANCERS. */
    private static Map<List<Integer>, List<Integer>> waysHome(State s) {
        int n = s.n();
        if (WAYS.containsKey(n)) {
            return WAYS.get(n);
        }
        Map<List<Integer>, List<Integer>> ways = new HashMap<>();
        List<Integer> home = new ArrayList<>();
        for (int d = 0; d < n; d++) {
            home.add(d);
        }
        ways.put(home, List.of());
        List<List<Integer>> ring = List.of(home);
        while (!ring.isEmpty()) {
            Map<List<Integer>, List<Integer>> next = new HashMap<>();
            for (List<Integer> from : ring) {
                for (int g = 0; g < s.gaps(); g++) {
                    List<Integer> to = new ArrayList<>(from);
                    java.util.Collections.swap(to, g, (g + 1) % n);
                    if (ways.containsKey(to)) {
                        continue;
                    }
                    List<Integer> way = new ArrayList<>();
                    way.add(g);
                    way.addAll(ways.get(from));
                    List<Integer> old = next.get(to);
                    if (old == null || compare(way, old) < 0) {
                        next.put(to, way);
                    }
                }
            }
            ways.putAll(next);
            ring = new ArrayList<>(next.keySet());
        }
        WAYS.put(n, ways);
        return ways;
    }

    private static int compare(List<Integer> a, List<Integer> b) {
        for (int k = 0; k < a.size(); k++) {
            if (!a.get(k).equals(b.get(k))) {
                return a.get(k) - b.get(k);
            }
        }
        return 0;
    }

    public int homeward() {
        return asInt(() -> waysHome(now).get(now.standing).size());
    }

    public int homewardAt(int k) {
        return asInt(() -> {
            need(1, k >= 0);
            List<Integer> way = waysHome(now).get(now.standing);
            need(6, k < way.size());
            return way.get(k);
        });
    }

    public int meet(int d, int other) {
        return asInt(() -> {
            needDancer(d);
            needDancer(other);
            need(1, d != other);
            Map<List<Integer>, Integer> far = new HashMap<>();
            ArrayDeque<List<Integer>> queue = new ArrayDeque<>();
            List<Integer> first = List.of(now.standing.indexOf(d), now.standing.indexOf(other));
            far.put(first, 0);
            queue.add(first);
            while (true) {
                List<Integer> two = queue.remove();
                for (int g = 0; g < now.gaps(); g++) {
                    int next = (g + 1) % now.n();
                    if (two.contains(g) && two.contains(next)) {
                        return far.get(two);
                    }
                    List<Integer> to = List.of(moved(two.get(0), g, next), moved(two.get(1), g, next));
                    if (!far.containsKey(to)) {
                        far.put(to, far.get(two) + 1);
                        queue.add(to);
                    }
                }
            }
        });
    }

    private static int moved(int place, int gap, int next) {
        return place == gap ? next : place == next ? gap : place;
    }

    // ---- dances

    private List<Integer> danceOf(int tray, int n) {
        need(1, in(tray, 0, 3) && in(n, 0, 40));
        need(2, trays[tray] != null);
        need(3, n <= trays[tray].length);
        List<Integer> all = new ArrayList<>();
        for (int k = 0; k < n; k++) {
            need(5, in(trays[tray][k], 0, 2L * now.gaps() - 1));
            all.add((int) trays[tray][k]);
        }
        return all;
    }

    private State danced(List<Integer> dance) {
        State s = new State();
        for (int d = 0; d < now.n(); d++) {
            s.colours.add(0);
            s.names.add("");
            s.standing.add(d);
        }
        s.longest = 1000;
        for (int code : dance) {
            s.pass(code / 2, code % 2 == 1);
        }
        return s;
    }

    /** Two rows are the same up to those that do not TOUCH, if for each two GAPS that do the PASSES in them are. */
    private static boolean sameWords(State s, String a, String b) {
        if (a.length() != b.length()) {
            return false;
        }
        for (int g = 0; g < s.gaps(); g++) {
            for (int h = 0; h <= g; h++) {
                if (s.touch(g, h) && !only(a, g, h).equals(only(b, g, h))) {
                    return false;
                }
            }
        }
        return true;
    }

    private static String only(String word, int g, int h) {
        StringBuilder b = new StringBuilder();
        for (char c : word.toCharArray()) {
            if (c / 2 == g || c / 2 == h) {
                b.append(c);
            }
        }
        return b.toString();
    }

    public int same(int tray, int n) {
        return asInt(() -> sameWords(now, now.word(), danced(danceOf(tray, n)).word()) ? 1 : 0);
    }

    public int apart(int tray, int n) {
        return asInt(() -> {
            String goal = danced(danceOf(tray, n)).word();
            State s = now.copy();
            s.longest = 1000;
            int common = commonBeginning(s, s.word(), goal);
            int far = s.plait.size() + goal.length() - 2 * common;
            if (s.gaps() <= 4 && far <= 4 || far <= 2) {
                int searched = searchApart(s, goal, far);
                if (searched != far) {
                    throw new IllegalStateException("the plain model is at odds with itself: " + searched + ", " + far);
                }
            }
            return far;
        });
    }

    /** Takes off both words, again and again, what each can begin with. */
    private static int commonBeginning(State s, String a, String b) {
        int common = 0;
        StringBuilder x = new StringBuilder(a);
        StringBuilder y = new StringBuilder(b);
        boolean more = true;
        while (more) {
            more = false;
            for (char c = 0; c < 2 * s.gaps() && !more; c++) {
                int i = beginning(s, x, c);
                int j = beginning(s, y, c);
                if (i >= 0 && j >= 0) {
                    x.deleteCharAt(i);
                    y.deleteCharAt(j);
                    common++;
                    more = true;
                }
            }
        }
        return common;
    }

    private static int beginning(State s, CharSequence word, char c) {
        for (int k = 0; k < word.length(); k++) {
            if (word.charAt(k) == c) {
                return k;
            }
            if (s.touch(word.charAt(k) / 2, c / 2)) {
                return -1;
            }
        }
        return -1;
    }

    private static int searchApart(State from, String goal, int most) {
        List<State> ring = List.of(from);
        for (int far = 0; far <= most; far++) {
            List<State> next = new ArrayList<>();
            for (State s : ring) {
                if (sameWords(s, s.word(), goal)) {
                    return far;
                }
                for (int code = 0; code < 2 * s.gaps() && far < most; code++) {
                    State to = s.copy();
                    if (to.pass(code / 2, code % 2 == 1) != 0) {
                        next.add(to);
                    }
                }
            }
            ring = next;
        }
        return -1;
    }

    private List<Integer> slipsOf(int tray, int n) {
        List<Integer> dance = danceOf(tray, n);
        List<Integer> found = new ArrayList<>();
        for (int k = 0; k < n; k++) {
            List<Integer> other = new ArrayList<>(dance);
            other.set(k, dance.get(k) ^ 1);
            if (sameWords(now, now.word(), danced(other).word())) {
                found.add(k);
            }
        }
        return found;
    }

    public int slips(int tray, int n) {
        return asInt(() -> slipsOf(tray, n).size());
    }

    public int slipAt(int tray, int n, int k) {
        return asInt(() -> {
            need(1, k >= 0);
            List<Integer> found = slipsOf(tray, n);
            need(6, k < found.size());
            return found.get(k);
        });
    }

    // ---- what is seen

    /** All rows that fit, each with what SHOWS behind it. */
    private Map<List<Integer>, List<Integer>> fitting(int tray, int n, int k) {
        need(1, in(tray, 0, 3) && in(n, 0, 20) && in(k, 0, 4));
        need(2, trays[tray] != null);
        need(3, 2 * n <= trays[tray].length);
        for (int j = 0; j < n; j++) {
            need(5, in(trays[tray][2 * j], 0, now.gaps() - 1) && in(trays[tray][2 * j + 1], 0, 6));
        }
        Map<List<Integer>, List<Integer>> found = new java.util.LinkedHashMap<>();
        extend(now.copy(), new ArrayList<>(), k, tray, n, found);
        return found;
    }

    private void extend(State s, List<Integer> row, int k, int tray, int n, Map<List<Integer>, List<Integer>> found) {
        if (row.size() == k) {
            List<Integer> shown = new ArrayList<>();
            for (int g = 0; g < s.gaps(); g++) {
                shown.add(s.shows(g));
            }
            for (int j = 0; j < n; j++) {
                if (shown.get((int) trays[tray][2 * j]) != trays[tray][2 * j + 1]) {
                    return;
                }
            }
            found.put(new ArrayList<>(row), shown);
            return;
        }
        for (int code = 0; code < 2 * s.gaps(); code++) {
            State to = s.copy();
            if (to.pass(code / 2, code % 2 == 1) != 0) {
                row.add(code);
                extend(to, row, k, tray, n, found);
                row.remove(row.size() - 1);
            }
        }
    }

    public int fits(int tray, int n, int k) {
        return asInt(() -> fitting(tray, n, k).size());
    }

    public int fitsAt(int tray, int n, int k, int place) {
        return asInt(() -> {
            need(1, place >= 0);
            Map<List<Integer>, List<Integer>> found = fitting(tray, n, k);
            need(6, !found.isEmpty() && place < k);
            return found.keySet().iterator().next().get(place);
        });
    }

    public int ask(int tray, int n, int k) {
        return asInt(() -> {
            Map<List<Integer>, List<Integer>> found = fitting(tray, n, k);
            need(6, !found.isEmpty());
            int best = -1;
            int fewest = found.size();
            for (int g = 0; g < now.gaps(); g++) {
                int[] with = new int[7];
                for (List<Integer> shown : found.values()) {
                    with[shown.get(g)]++;
                }
                int most = Arrays.stream(with).max().getAsInt();
                if (most < fewest) {
                    fewest = most;
                    best = g;
                }
            }
            need(6, best >= 0);
            return best;
        });
    }

    // ---- games, odds

    private static int worth(State s, int turns, boolean caller) {
        if (turns == 0) {
            return s.coloursShown();
        }
        List<Integer> worths = new ArrayList<>();
        worths.add(worth(s, turns - 1, !caller));
        for (int code = 0; code < 2 * s.gaps(); code++) {
            State to = s.copy();
            if (to.pass(code / 2, code % 2 == 1) != 0) {
                worths.add(worth(to, turns - 1, !caller));
            }
        }
        return caller ? java.util.Collections.max(worths) : java.util.Collections.min(worths);
    }

    public int game(int n) {
        return asInt(() -> {
            need(1, in(n, 0, 3));
            return worth(now, n, true);
        });
    }

    public int moveOf(int n) {
        return asInt(() -> {
            need(1, in(n, 1, 3));
            int best = worth(now, n, true);
            for (int code = 0; code < 2 * now.gaps(); code++) {
                State to = now.copy();
                if (to.pass(code / 2, code % 2 == 1) != 0 && worth(to, n - 1, false) == best) {
                    return code;
                }
            }
            throw new Bad(6);
        });
    }

    public boolean slipped(int n, int k) {
        return asBoolean(() -> {
            need(1, in(n, 0, 12) && in(k, 0, 12));
            long sum = 0;
            for (int set = 0; set < 1 << n; set++) {
                if (Integer.bitCount(set) >= k) {
                    long ways = 1;
                    for (int j = 0; j < n; j++) {
                        ways *= (set >> j & 1) == 1 ? now.odds : 16 - now.odds;
                    }
                    sum += ways;
                }
            }
            fraction(sum, 1L << 4 * n);
        });
    }

    public boolean drift(int d, int place, int k) {
        return asBoolean(() -> {
            needDancer(d);
            need(1, in(place, 0, now.n() - 1) && in(k, 0, 5));
            need(6, now.gaps() > 0 || k == 0);
            long all = 1;
            for (int j = 0; j < k; j++) {
                all *= now.gaps();
            }
            fraction(driftWays(now.standing.indexOf(d), place, k), all);
        });
    }

    private long driftWays(int from, int to, int k) {
        if (k == 0) {
            return from == to ? 1 : 0;
        }
        long sum = 0;
        for (int g = 0; g < now.gaps(); g++) {
            sum += driftWays(moved(from, g, (g + 1) % now.n()), to, k - 1);
        }
        return sum;
    }

    public boolean share(int d) {
        return asBoolean(() -> {
            needDancer(d);
            need(6, !now.plait.isEmpty());
            fraction(now.plait.stream().filter(p -> p.upper() == d).count(), now.plait.size());
        });
    }

    public int copyShows(int tray) {
        return asInt(() -> {
            need(1, in(tray, 0, 3));
            need(2, trays[tray] != null);
            need(3, now.gaps() <= trays[tray].length);
            for (int g = 0; g < now.gaps(); g++) {
                trays[tray][g] = now.shows(g);
            }
            return now.gaps();
        });
    }

    // ---- FEASTS

    private static final class Living {
        final State s;
        int drawn;
        int steps;
        int missed;
        int came;
        int undone;
        int left;
        boolean over;

        Living(State s, int seed) {
            this.s = s;
            this.drawn = seed;
            block(s.feasts);
        }

        int draw(int n) {
            drawn = (int) ((drawn * 3269L + 11493L) % 65536L);
            return drawn / 8 % n;
        }

        boolean count(int kind) {
            came += kind == 1 ? 1 : 0;
            undone += kind == 2 ? 1 : 0;
            return kind != 0;
        }

        void block(List<Step> all) {
            for (Step step : all) {
                if (over) {
                    return;
                }
                if (steps == 300) {
                    left = 1;
                    over = true;
                    return;
                }
                steps++;
                if (!step(step)) {
                    missed++;
                }
            }
        }

        /** Whether it was not MISSED. */
        boolean step(Step step) {
            List<String> rest = step.rest();
            switch (step.word()) {
                case "pass":
                    return count(s.pass(number(rest, 0), rest.get(1).equals("over")));
                case "back":
                    return count(s.back() ? 2 : 0);
                case "weave":
                    boolean some = false;
                    for (int k = 0; k < number(rest, 0); k++) {
                        for (int kind : s.weave()) {
                            some |= count(kind);
                        }
                    }
                    return some;
                case "paint":
                    return s.colours.set(number(rest, 0), number(rest, 1)) != number(rest, 1);
                case "any":
                    if (s.gaps() == 0) {
                        return false;
                    }
                    int gap = draw(s.gaps());
                    boolean over = draw(2) == 1;
                    return count(s.pass(gap, draw(16) < s.odds ? !over : over));
                case "when":
                    if (test(rest)) {
                        block(step.within());
                    }
                    return true;
                case "loop":
                    for (int k = 0; k < number(rest, 0); k++) {
                        block(step.within());
                    }
                    return true;
                default:
                    this.over = true;
                    return true;
            }
        }

        static int number(List<String> rest, int k) {
            return Integer.parseInt(rest.get(k));
        }

        boolean test(List<String> rest) {
            return switch (rest.get(0)) {
                case "home" -> s.standing.get(number(rest, 1)) == number(rest, 1);
                case "at" -> s.standing.indexOf(number(rest, 1)) == number(rest, 2);
                case "shows" -> s.shows(number(rest, 1)) == number(rest, 2);
                default -> {
                    int c = Integer.compare(s.plait.size(), number(rest, 2));
                    yield rest.get(1).equals("<") ? c < 0 : rest.get(1).equals(">") ? c > 0 : c == 0;
                }
            };
        }
    }

    public int live(int seed) {
        return asInt(() -> {
            need(1, in(seed, 0, 9999));
            need(6, now.feasts != null);
            Living l = new Living(now, seed);
            lived = new int[] {l.missed, l.came + l.undone, l.came, l.undone, l.left};
            return l.steps;
        });
    }

    public int lived(int what) {
        return asInt(() -> {
            need(1, in(what, 0, 4));
            need(6, lived != null);
            return lived[what];
        });
    }

    public boolean mean(int seed, int many) {
        return asBoolean(() -> {
            need(1, in(seed, 0, 9999) && in(many, 1, 20) && in((long) seed + many - 1, 0, 9999));
            need(6, now.feasts != null);
            long sum = 0;
            for (int k = 0; k < many; k++) {
                sum += new Living(now.copy(), seed + k).s.plait.size();
            }
            fraction(sum, many);
        });
    }

    // ---- MARKS

    public int mark() {
        return asInt(() -> {
            need(4, marks.size() < 3);
            marks.add(now.copy());
            return marks.size();
        });
    }

    public int undo() {
        return asInt(() -> {
            need(6, !marks.isEmpty());
            now = marks.remove(marks.size() - 1);
            return marks.size();
        });
    }
}
