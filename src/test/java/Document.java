import java.io.IOException;
import java.nio.file.Files;
import java.nio.file.Path;
import java.util.ArrayList;
import java.util.LinkedHashMap;
import java.util.List;
import java.util.Map;
import java.util.TreeMap;
import java.util.regex.Matcher;
import java.util.regex.Pattern;

/** The document's words: what a test quotes must stand in it, and what no test quotes can be told. */
final class Document {
    /** All from the first line to the last, without headings, the code block and signatures, its blanks folded. */
    private final String words;
    private final boolean[] quoted;
    /** By the name of a call: the STATUSES in the brackets of its promise, in their order. */
    private final Map<String, List<Integer>> statuses = new TreeMap<>();
    /** The members in the code block, one by one, without the sign behind them. */
    private final List<String> face = new ArrayList<>();
    /** By number, from 1 on: the signature of each promise. */
    private final List<String> signatures = new ArrayList<>();
    /** By what the interface says ahead of them: the calls of each group, in the document's order. */
    private final Map<String, List<String>> groups = new LinkedHashMap<>();

    Document(Path file) throws IOException {
        String text = Files.readString(file);
        readStatuses(text);
        readFace(text);
        text = text.replaceAll("(?s)```java\\n.*?```", " ");
        text = text.replaceAll("(?m)^(```|#+ ).*$", " ");
        text = text.replaceAll("(?m)^`[^`]*`: ", " ");
        words = folded(text.replaceAll("==== \\d\\.", " "));
        quoted = new boolean[words.length()];
    }

    private static String folded(String text) {
        return text.replaceAll("\\s+", " ").trim();
    }

    private void readStatuses(String text) {
        Matcher promise = Pattern.compile("(?m)^## Promise .*\\n\\n`[^`]*?(\\w+)\\([^`]*`: (.*)$").matcher(text);
        while (promise.find()) {
            List<Integer> found = new ArrayList<>();
            Matcher brackets = Pattern.compile("\\(([^()]*)\\)").matcher(promise.group(2));
            String last = "";
            while (brackets.find()) {
                last = brackets.group(1);
            }
            for (String part : last.split("[;,]")) {
                if (part.trim().matches("\\d(:.*)?")) {
                    found.add(part.trim().charAt(0) - '0');
                }
            }
            statuses.put(promise.group(1), found);
        }
    }

    private void readFace(String text) {
        String block = text.substring(text.indexOf("```java"), text.indexOf("}\n```"));
        Matcher member = Pattern.compile("(?m)^    (public .*);$").matcher(block);
        while (member.find()) {
            face.add(member.group(1));
        }
        Matcher promise = Pattern.compile("(?m)^## Promise (\\d+): .*\\n\\n`([^`]*)`: ").matcher(text);
        while (promise.find()) {
            if (Integer.parseInt(promise.group(1)) == signatures.size() + 1) {
                signatures.add(promise.group(2));
            }
        }
        Matcher ahead = Pattern.compile("(?m)^Ahead of the calls (.*) the interface says: (.*)$").matcher(text);
        while (ahead.find()) {
            groups.put(ahead.group(2), List.of(ahead.group(1).replace("`", "").split(", ")));
        }
    }

    List<String> face() {
        return face;
    }

    List<String> signatures() {
        return signatures;
    }

    Map<String, List<String>> groups() {
        return groups;
    }

    Map<String, List<Integer>> statuses() {
        return statuses;
    }

    /** Whether these words stand in the document; they count as quoted from now on. */
    boolean quote(String sentence) {
        String sought = folded(sentence);
        int at = words.indexOf(sought);
        boolean found = at >= 0;
        while (at >= 0) {
            for (int k = 0; k < sought.length(); k++) {
                quoted[at + k] = true;
            }
            at = words.indexOf(sought, at + 1);
        }
        return found;
    }

    /** What nobody has quoted, but for the signs between the quotes. */
    List<String> unquoted() {
        List<String> all = new ArrayList<>();
        StringBuilder passage = new StringBuilder();
        for (int k = 0; k <= words.length(); k++) {
            if (k < words.length() && !quoted[k]) {
                passage.append(words.charAt(k));
            } else {
                if (passage.toString().matches(".*\\w.*")) {
                    all.add(passage.toString().trim());
                }
                passage.setLength(0);
            }
        }
        return all;
    }
}
