import java.lang.reflect.Method;
import java.util.ArrayList;
import java.util.HashMap;
import java.util.List;
import java.util.Map;
import java.util.Random;
import java.util.TreeMap;

/** Random runs of calls on the class and on PlainGreen: every answer must be the same. */
public final class ModelTest {
    private static final String[] CALLS = {
        "tray", "write", "read", "pour", "feedText", "told", "dancer", "place", "plait", "shows", "passes",
        "pass", "pass", "pass", "pass", "pass", "pass", "back", "weave", "paint", "trade", "come", "rule",
        "bound", "homeward", "homewardAt", "meet", "same", "apart", "slips", "slipAt", "danceTray", "danceTray",
        "fits", "fitsAt", "ask", "seenTray", "game", "moveOf", "slipped", "drift", "share", "copyShows",
        "live", "live", "lived", "mean", "mark", "undo", "fault", "green", "feasts", "feedText", "feedText", "wild"
    };

    private final Random random;
    private final MaypoleGreen real = new MaypoleGreen();
    private final PlainGreen plain = new PlainGreen();
    private final List<String> told = new ArrayList<>();
    private static final Map<String, Integer> SEEN = new TreeMap<>();
    private static final Map<String, Method> REAL = methods(MaypoleGreen.class);
    private static final Map<String, Method> PLAIN = methods(PlainGreen.class);

    private ModelTest(long seed) {
        random = new Random(seed);
    }

    private static Map<String, Method> methods(Class<?> of) {
        Map<String, Method> all = new HashMap<>();
        for (Method m : of.getDeclaredMethods()) {
            if (java.lang.reflect.Modifier.isPublic(m.getModifiers())) {
                m.setAccessible(true);
                all.put(m.getName(), m);
            }
        }
        return all;
    }

    public static void main(String[] args) throws Exception {
        int runs = args.length > 1 ? Integer.parseInt(args[1]) : 1500;
        long first = args.length > 2 ? Long.parseLong(args[2]) : 0;
        for (long seed = first; seed < first + runs; seed++) {
            ModelTest test = new ModelTest(seed);
            try {
                test.run();
            } catch (IllegalStateException wrong) {
                System.out.println("run " + seed + ": " + wrong.getMessage());
                int from = Math.max(0, test.told.size() - 60);
                for (String line : test.told.subList(from, test.told.size())) {
                    System.out.println("    " + line);
                }
                System.exit(1);
            }
        }
        for (String name : REAL.keySet()) {
            if (!SEEN.containsKey(name + " 0") && !List.of("status", "top", "bottom").contains(name)) {
                System.out.println("never with STATUS 0: " + name);
                System.exit(1);
            }
        }
        if (args.length > 3) {
            System.out.println(SEEN);
        }
        System.out.println(runs + " random runs are as the plain model's");
    }

    private void run() throws Exception {
        if (below(10) > 0) {
            takeGreen(false);
        } else {
            for (int k = below(8); k > 0; k--) {
                call("come", below(6));
            }
        }
        for (int k = 0; k < 120; k++) {
            step(CALLS[below(CALLS.length)]);
        }
    }

    private int below(int n) {
        return random.nextInt(n);
    }

    /** Mostly a number that can be, now and then one beside. */
    private int about(int n) {
        int wild = below(40);
        if (wild == 0) {
            return -1;
        }
        if (wild == 1) {
            return n;
        }
        if (wild == 2) {
            return new int[] {Integer.MIN_VALUE, Integer.MAX_VALUE, 1 << 30, n + 1, 64}[below(5)];
        }
        return n <= 0 ? 0 : below(n);
    }

    private void step(String name) throws Exception {
        int n = plain.dancersNow();
        int gaps = plain.gapsNow();
        int plait = plain.plaitNow();
        switch (name) {
            case "tray" -> call(name, about(4), about(4), below(3) == 0 ? about(61) : about(12));
            case "write" -> call(name, about(4), about(10), below(2) == 0 ? (long) about(14) : random.nextLong());
            case "read" -> call(name, about(4), about(10));
            case "pour" -> call(name, about(4), about(8), about(4), about(8), about(8));
            case "told" -> call(name, about(10));
            case "dancer" -> call(name, about(n), about(5));
            case "place" -> call(name, about(n));
            case "plait" -> call(name, about(plait), about(7));
            case "shows", "passes" -> call(name, about(gaps));
            case "pass" -> call(name, about(gaps), random.nextBoolean());
            case "paint" -> call(name, about(n), about(6));
            case "trade", "meet" -> call(name, about(n), about(n));
            case "come" -> call(name, about(6));
            case "rule" -> ruleCall();
            case "bound", "share" -> call(name, about(n));
            case "homewardAt" -> call(name, about(9));
            case "same", "apart", "slips" -> call(name, about(4), below(4) == 0 ? about(41) : about(plait + 1));
            case "slipAt" -> call(name, about(4), below(4) == 0 ? about(41) : about(plait + 1), about(2));
            case "danceTray" -> danceTray(plait, gaps);
            case "fits" -> call(name, about(4), about(below(4) == 0 ? 21 : 3), ahead(gaps));
            case "fitsAt" -> call(name, about(4), about(below(4) == 0 ? 21 : 3), ahead(gaps), about(4));
            case "ask" -> call(name, about(4), about(below(4) == 0 ? 21 : 3), ahead(gaps));
            case "seenTray" -> seenTray(gaps);
            case "game", "moveOf" -> call(name, gaps > 5 && below(4) > 0 ? about(3) : about(4));
            case "slipped" -> call(name, about(13), about(13));
            case "drift" -> call(name, about(n), about(n), about(6));
            case "copyShows" -> call(name, about(4));
            case "live" -> call(name, about(10000));
            case "lived" -> call(name, about(5));
            case "mean" -> call(name, below(10) == 0 ? 9975 + below(30) : about(10000), about(21));
            case "fault" -> call(name, about(2));
            case "green", "feasts" -> call(name, about(30));
            case "feedText" -> feedText();
            case "wild" -> wildCall();
            default -> call(name);
        }
    }

    private int ahead(int gaps) {
        return gaps > 5 && below(8) > 0 ? about(3) : gaps > 4 ? about(4) : about(5);
    }

    private void ruleCall() throws Exception {
        int what = below(2) == 0 ? 3 : below(8) == 0 ? about(6) : 4;
        call("rule", what, what == 3 ? about(17) : below(3) == 0 ? about(6) : 12 + about(29));
    }

    /** Any call with any numbers. */
    private void wildCall() throws Exception {
        List<String> names = new ArrayList<>(new java.util.TreeSet<>(REAL.keySet()));
        Method m = REAL.get(names.get(below(names.size())));
        if (m.getName().equals("feed")) {
            return;
        }
        Class<?>[] types = m.getParameterTypes();
        Object[] values = new Object[types.length];
        for (int k = 0; k < types.length; k++) {
            int v = switch (below(6)) {
                case 0 -> Integer.MIN_VALUE;
                case 1 -> Integer.MAX_VALUE;
                case 2 -> random.nextInt();
                default -> below(9) - 2;
            };
            values[k] = types[k] == boolean.class ? (Object) (v > 0) : types[k] == long.class ? (Object) (long) v : (Object) v;
        }
        call(m.getName(), values);
    }

    /** A DANCE near the PLAIT now: its PASSES, some of them changed, exchanged, or with others in between. */
    private void danceTray(int plait, int gaps) throws Exception {
        List<Integer> dance = new ArrayList<>();
        for (int k = 0; k < plait; k++) {
            dance.add(plain.codeNow(k));
        }
        for (int changes = below(4); changes > 0 && gaps > 0; changes--) {
            int at = dance.isEmpty() ? 0 : below(dance.size());
            switch (below(5)) {
                case 0 -> dance.add(at, below(2 * gaps));
                case 1 -> {
                    int code = below(2 * gaps);
                    dance.add(at, code);
                    dance.add(at, code ^ 1);
                }
                case 2 -> {
                    if (!dance.isEmpty()) {
                        dance.set(at, dance.get(at) ^ 1);
                    }
                }
                case 3 -> {
                    if (at + 1 < dance.size()) {
                        java.util.Collections.swap(dance, at, at + 1);
                    }
                }
                default -> {
                    if (!dance.isEmpty()) {
                        dance.remove(at);
                    }
                }
            }
        }
        int many = Math.min(dance.size(), 40);
        int tray = below(4);
        call("tray", tray, below(4), Math.min(60, many + below(3)));
        for (int k = 0; k < many; k++) {
            call("write", tray, k, (long) dance.get(k));
        }
        call("same", tray, many);
        call("apart", tray, many);
        call("slips", tray, many);
        call("slipAt", tray, many, 0);
        call("slipAt", tray, many, 1);
    }

    private void seenTray(int gaps) throws Exception {
        int tray = below(4);
        int n = below(4);
        call("tray", tray, below(4), 2 * n + below(3));
        for (int k = 0; k < n; k++) {
            int gap = about(gaps);
            int shown = gap < 0 || gap >= gaps ? 0 : plain.shownNow(gap);
            call("write", tray, 2 * k, (long) gap);
            call("write", tray, 2 * k + 1, (long) (below(2) == 0 ? about(7) : shown));
        }
        int k = ahead(gaps);
        call("fits", tray, n, k);
        call("ask", tray, n, k);
        call("fitsAt", tray, n, k, 0);
        call("fitsAt", tray, n, k, about(4));
    }

    // ---- texts

    private void feedText() throws Exception {
        if (below(4) == 0) {
            takeGreen(below(2) == 0);
        } else {
            takeFeasts(below(3) == 0);
        }
    }

    private void takeGreen(boolean spoilt) throws Exception {
        StringBuilder b = new StringBuilder();
        if (below(2) == 0) {
            b.append("odds ").append(below(17)).append(" ; ");
        }
        if (below(2) == 0) {
            b.append("long ").append(1 + below(40)).append(";\n");
        }
        int n = below(8);
        for (int d = 0; d < n; d++) {
            b.append("dancer ").append(name(d)).append(" colour ").append(below(6)).append(below(2) == 0 ? ";" : " ; ");
        }
        int gaps = n < 2 ? 0 : n == 2 ? 1 : n;
        for (int k = gaps == 0 ? 0 : below(spoilt ? 30 : 6); k > 0; k--) {
            b.append("pass ").append(below(gaps)).append(below(2) == 0 ? " over;" : " under;");
        }
        if (below(8) == 0) {
            b.append(" odds 5;");
        }
        take("green", spoilt ? spoil(b.toString()) : b.toString());
    }

    private static String name(int d) {
        return new String[] {"p", "odd", "abcdefgh", "q", "homes", "zzzzzzzz", "a"}[d];
    }

    private void takeFeasts(boolean spoilt) throws Exception {
        StringBuilder b = new StringBuilder();
        block(b, 0, 1 + below(spoilt ? 12 : 6));
        take("feasts", spoilt ? spoil(b.toString()) : b.toString());
    }

    private void block(StringBuilder b, int depth, int many) throws Exception {
        int gaps = plain.gapsNow();
        int n = plain.dancersNow();
        for (int k = 0; k < many; k++) {
            switch (below(10)) {
                case 0 -> b.append("back;");
                case 1 -> b.append("weave ").append(1 + below(9)).append(";");
                case 2 -> b.append(n == 0 ? "any;" : "paint " + name(below(n)) + " " + below(6) + ";");
                case 3, 4 -> b.append("any;");
                case 5, 6 -> {
                    if (depth < 3 || below(9) == 0) {
                        b.append("when ").append(test(n, gaps)).append(";");
                        block(b, depth + 1, below(4));
                        b.append("end;");
                    }
                }
                case 7 -> {
                    if (depth < 3) {
                        b.append("loop ").append(1 + below(below(3) == 0 ? 99 : 9)).append(";");
                        block(b, depth + 1, below(4));
                        b.append("end ; ");
                    }
                }
                case 8 -> b.append(below(6) == 0 ? "stop;" : gaps == 0 ? "any;" : "pass " + below(gaps) + " over;");
                default -> b.append(gaps == 0 ? "back;" : "pass " + below(gaps) + " under;");
            }
        }
    }

    private String test(int n, int gaps) {
        return switch (gaps == 0 ? 3 : below(4)) {
            case 0 -> "home " + name(below(n));
            case 1 -> "at " + name(below(n)) + " " + below(n);
            case 2 -> "shows " + below(gaps) + " " + below(7);
            default -> "plait " + "<>=".charAt(below(3)) + " " + below(below(3) == 0 ? 41 : 8);
        };
    }

    private String spoil(String text) {
        StringBuilder b = new StringBuilder(text);
        for (int k = below(3); k >= 0; k--) {
            int at = below(b.length() + 1);
            switch (below(6)) {
                case 0 -> b.setLength(at);
                case 1 -> b.insert(at, (char) below(256));
                case 2 -> b.insert(at, below(20000));
                case 3 -> b.insert(at, new String[] {" pass ", ";", "<", " end;", " dancer ", " stop; ", "when ", "abcdefghi"}[below(8)]);
                case 4 -> b.delete(at, Math.min(b.length(), at + below(4)));
                default -> {
                    int other = below(b.length() + 1);
                    b.insert(at, b.substring(Math.min(at, other), Math.min(b.length(), Math.max(at, other))));
                }
            }
        }
        return b.toString();
    }

    private void take(String call, String text) throws Exception {
        if (text.length() > 880) {
            return;
        }
        if (below(20) == 0) {
            call("feasts", 0);
        }
        int size = 0;
        for (int k = 0; k < text.length(); k += 20) {
            int[] fives = new int[5];
            for (int j = 0; j < 20; j++) {
                int sign = k + j < text.length() ? text.charAt(k + j) : 0;
                fives[j / 4] |= sign << 24 - 8 * (j % 4);
            }
            size = call("feed", fives[0], fives[1], fives[2], fives[3], fives[4]).intValue();
        }
        told.add("    # " + text.replace("\n", "\\n"));
        call(call, size < 0 ? 900 : size - Math.floorMod(-text.length(), 20));
        call("fault", 0);
        call("fault", 1);
    }

    // ---- one call of both

    private Number call(String name, Object... values) throws Exception {
        Number a = number(REAL.get(name).invoke(real, values));
        Number b = number(PLAIN.get(name).invoke(plain, values));
        told.add(name + java.util.Arrays.toString(values) + " answered " + a + ", STATUS " + real.status());
        same(a, b, name);
        same(real.status(), plain.status(), name + ": status()");
        same(real.top(), plain.top(), name + ": top()");
        same(real.bottom(), plain.bottom(), name + ": bottom()");
        SEEN.merge(name + " " + real.status(), 1, Integer::sum);
        if (name.equals("green") || name.equals("feasts")) {
            SEEN.merge(name + " FAULT " + real.fault(0), 1, Integer::sum);
        }
        return a;
    }

    private static Number number(Object answer) {
        if (answer instanceof Boolean yes) {
            return yes ? 1L : 0L;
        }
        return ((Number) answer).longValue();
    }

    private static void same(Number got, Number due, String call) {
        if (got.longValue() != due.longValue()) {
            throw new IllegalStateException(call + " answered " + got + ", due is " + due);
        }
    }
}
