import java.io.IOException;
import java.lang.management.ManagementFactory;
import java.lang.reflect.Constructor;
import java.lang.reflect.Field;
import java.lang.reflect.Method;
import java.lang.reflect.Modifier;
import java.nio.file.Files;
import java.nio.file.Path;
import java.util.ArrayList;
import java.util.Arrays;
import java.util.List;
import java.util.Set;
import java.util.TreeSet;
import java.util.regex.Matcher;
import java.util.regex.Pattern;

/** The public face, the rules of LANGUAGE.md that can be seen from outside, the room and the time of the dearest calls. */
public final class LanguageTest {
    private static final Check CHECK = new Check("LanguageTest");

    public static void main(String[] args) throws Exception {
        Path root = Path.of(args.length > 0 ? args[0] : ".");
        Path source = root.resolve("src/main/java/MaypoleGreen.java");
        face(root.resolve("../shared/DOC.md"));
        members();
        words(bare(Files.readString(source)));
        sizes(bare(Files.readString(source)));
        depth(source);
        room();
        anyArguments();
        CHECK.end();
    }

    private static void none(String what, Object found) {
        CHECK.due(what + " " + found, found == null || found.equals("") || found.equals(Set.of()) ? 0 : 1, 0);
    }

    // ---- the face

    private static void face(Path document) throws IOException {
        String text = Files.readString(document);
        String block = text.substring(text.indexOf("public final class"), text.indexOf("}\n```"));
        Set<String> due = new TreeSet<>();
        Matcher m = Pattern.compile("public (\\w+) (\\w+)\\(([^)]*)\\);").matcher(block);
        while (m.find()) {
            StringBuilder b = new StringBuilder(m.group(1) + " " + m.group(2));
            for (String one : m.group(3).isEmpty() ? new String[0] : m.group(3).split(",")) {
                b.append(" ").append(one.trim().split(" ")[0]);
            }
            due.add(b.toString());
        }
        CHECK.due("calls in the document", due.size(), 46);
        Set<String> got = new TreeSet<>();
        for (Method method : MaypoleGreen.class.getDeclaredMethods()) {
            if (!Modifier.isPrivate(method.getModifiers())) {
                StringBuilder b = new StringBuilder(method.getReturnType() + " " + method.getName());
                for (Class<?> type : method.getParameterTypes()) {
                    b.append(" ").append(type);
                }
                got.add(b.toString());
                CHECK.due("public: " + method, Modifier.isPublic(method.getModifiers()), true);
            }
        }
        Set<String> lacking = new TreeSet<>(due);
        lacking.removeAll(got);
        got.removeAll(due);
        none("lacking", lacking);
        none("too many", got);
    }

    private static void members() {
        Class<?> c = MaypoleGreen.class;
        CHECK.due("final", Modifier.isFinal(c.getModifiers()), true);
        Set<String> visible = new TreeSet<>();
        Set<String> faceNames = new TreeSet<>();
        for (Method method : c.getDeclaredMethods()) {
            if (Modifier.isPublic(method.getModifiers())) {
                faceNames.add(method.getName());
            }
        }
        for (Field field : c.getDeclaredFields()) {
            if (!Modifier.isPrivate(field.getModifiers())) {
                visible.add(field.getName());
            }
        }
        CHECK.due("visible fields " + visible, visible.equals(Set.of("NONE")), true);
        Constructor<?>[] made = c.getDeclaredConstructors();
        CHECK.due("constructors", made.length, 1);
        CHECK.due("classes", 1 + c.getDeclaredClasses().length <= 12, true);
        List<Class<?>> all = new ArrayList<>(Arrays.asList(c.getDeclaredClasses()));
        for (Class<?> inside : all) {
            CHECK.due("static: " + inside, Modifier.isStatic(inside.getModifiers()), true);
            CHECK.due("not public: " + inside, Modifier.isPublic(inside.getModifiers()), false);
        }
        all.add(c);
        for (Class<?> one : all) {
            int fields = 0;
            for (Field field : one.getDeclaredFields()) {
                if (!Modifier.isStatic(field.getModifiers())) {
                    fields++;
                } else {
                    CHECK.due("final: " + field, Modifier.isFinal(field.getModifiers()), true);
                }
            }
            CHECK.due("fields of " + one + ": " + fields, fields <= 20, true);
            for (Method method : one.getDeclaredMethods()) {
                CHECK.due("parameters of " + method, method.getParameterCount() <= 7, true);
                boolean borrowed = !Modifier.isPublic(method.getModifiers()) && faceNames.contains(method.getName());
                CHECK.due("a name of the face: " + method, borrowed, false);
            }
        }
    }

    // ---- the source

    /** Without comments, texts and signs. */
    private static String bare(String source) {
        return Pattern.compile("/\\*.*?\\*/|//[^\\n]*|\"[^\"\\n]*\"|'[^'\\n]*'", Pattern.DOTALL).matcher(source)
                .replaceAll(m -> m.group().startsWith("/*") ? "\n".repeat((int) m.group().chars().filter(c -> c == '\n').count()) : "0");
    }

    private static String found(String source, String pattern) {
        Matcher m = Pattern.compile(pattern).matcher(source);
        return m.find() ? m.group() : "";
    }

    private static void words(String source) {
        String[] forbidden = {
            "\\b(throw|throws|try|catch|finally|synchronized|assert|volatile|transient|native|package|goto|yield|var)\\b",
            "->", "::", "\\bException\\b", "\\bError\\b", "static\\s*\\{", "Exact\\b", "\\bObject\\b",
            "\\b(hashCode|toString|equals)\\b", "\\bSystem\\.(?!arraycopy\\b)", "\\bThread\\b",
            "\\bMath\\.(?!max\\b|min\\b|abs\\b|floorDiv\\b|floorMod\\b)", "\\bArrays\\.(?!copyOf\\b|copyOfRange\\b|fill\\b)",
            "import (?!java\\.util\\.(Arrays|ArrayList|List);)", "\\b(double|float)\\b", "\\binstanceof\\b", "@"
        };
        for (String pattern : forbidden) {
            none("not in LANGUAGE.md:", found(source, pattern));
        }
        // a loop without a condition has no end that can be seen
        none("endless:", found(source, "while \\(true\\)|for \\([^;]*;\\s*;"));
        none("another sign than 1 to 127:", found(source, "[^\\x01-\\x7f]"));
    }

    private static void sizes(String source) {
        String[] lines = source.split("\n", -1);
        int begin = -1;
        String indent = "";
        for (int k = 0; k < lines.length; k++) {
            Matcher m = Pattern.compile("^( {4}| {8})\\S[^=;]*\\) \\{$").matcher(lines[k]);
            if (begin < 0 && m.find()) {
                begin = k;
                indent = m.group(1);
            } else if (begin >= 0 && lines[k].equals(indent + "}")) {
                CHECK.due("lines of " + lines[begin].trim(), k - begin + 1 <= 60, true);
                begin = -1;
            }
        }
    }

    /** Eight deep, the library's calls among them; what calls itself has a bound: turns, PASSES ahead, blocks in blocks. */
    private static void depth(Path source) throws IOException {
        CallDepth calls = new CallDepth(source);
        CHECK.due("methods read", calls.methods() > 100, true);
        CHECK.due("calls deep: " + calls.deepest(), calls.deepest() <= 8, true);
        Set<String> due = Set.of("worth", "extend", "doBlock", "doStep");
        CHECK.due("calls itself: " + calls.recursive(), calls.recursive().equals(due), true);
    }

    // ---- the room

    private static long made() {
        return ((com.sun.management.ThreadMXBean) ManagementFactory.getThreadMXBean()).getCurrentThreadAllocatedBytes();
    }

    /** Nothing is made but by the constructor, and the dearest calls end soon. */
    private static void room() {
        MaypoleGreen x = Check.of("long 40;" + Check.ring(7));
        Check.feasts(x, "loop 99;weave 9;any;back;end;");
        x.tray(0, 3, 60);
        x.tray(1, 3, 0);
        long before = made();
        new MaypoleGreen();
        long object = made() - before;
        // 600,000 objects and 7.3 million elements must do for all of a run
        CHECK.due("bytes of an object: " + object, object < 30_000, true);
        dearest(x);
        before = made();
        long start = System.nanoTime();
        for (int k = 0; k < 20; k++) {
            dearest(x);
        }
        CHECK.due("bytes made by calls: " + (made() - before), made() - before < 20_000, true);
        long each = (System.nanoTime() - start) / 20_000_000;
        CHECK.due("milliseconds of the dearest calls: " + each, each < 2000, true);
    }

    private static void dearest(MaypoleGreen x) {
        x.mark();
        x.fits(1, 0, 4);
        x.ask(1, 0, 4);
        x.fitsAt(1, 0, 4, 3);
        x.game(3);
        x.moveOf(3);
        x.mean(0, 20);
        x.live(5);
        x.slips(0, 40);
        x.slipAt(0, 40, 0);
        x.apart(0, 40);
        x.homewardAt(5);
        x.drift(0, 0, 5);
        x.slipped(12, 3);
        x.bound(0);
        x.told(5);
        x.pass(0, true);
        x.undo();
        x.feed(0x6f646473, 0x20373b20, 0x20202020, 0x20202020, 0x20202020);
        x.feasts(20);
        x.copyShows(0);
    }

    /** Every call with every mix of a few numbers, on a few objects: none may throw. */
    private static void anyArguments() throws Exception {
        int[] ints = {0, 1, -1, 2, 3, 7, 60, Integer.MIN_VALUE, Integer.MAX_VALUE};
        for (int dancers = 0; dancers <= 7; dancers++) {
            for (Method method : MaypoleGreen.class.getDeclaredMethods()) {
                if (Modifier.isPublic(method.getModifiers())) {
                    MaypoleGreen x = Check.of("long 3;" + Check.ring(dancers));
                    x.weave();
                    Check.feasts(x, "any;weave 2;");
                    x.tray(1, 0, 8);
                    int count = method.getParameterCount();
                    int mixes = (int) Math.pow(ints.length, count);
                    for (int mix = 0; mix < mixes; mix += count > 3 ? 7 : 1) {
                        Object[] values = new Object[count];
                        int rest = mix;
                        for (int k = 0; k < count; k++) {
                            int v = ints[rest % ints.length];
                            rest /= ints.length;
                            Class<?> type = method.getParameterTypes()[k];
                            values[k] = type == boolean.class ? (Object) (v > 0) : type == long.class ? (Object) (long) v : (Object) v;
                        }
                        try {
                            method.invoke(x, values);
                        } catch (java.lang.reflect.InvocationTargetException thrown) {
                            CHECK.due(method.getName() + Arrays.toString(values) + " threw " + thrown.getCause(), 1, 0);
                        }
                        CHECK.due("STATUS of " + method.getName(), x.status() >= 0 && x.status() <= 9 && x.bottom() > 0, true);
                    }
                }
            }
        }
    }
}
