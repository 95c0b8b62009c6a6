import java.io.IOException;
import java.nio.file.Files;
import java.nio.file.Path;
import java.util.ArrayList;
import java.util.List;
import java.util.Map;
import java.util.TreeMap;
import java.util.regex.Matcher;
import java.util.regex.Pattern;

/** The document's words: what a test quotes must stand in it, and what no test quotes can be told. */
final class Document {
    /** From "Terms" on, ahead of "Not promised", without headings and signatures, its blanks folded. */
    private final String words;
    private final boolean[] quoted;
    /** By the name of a call: the STATUSES in the brackets of its promise, in their order. */
    private final Map<String, List<Integer>> statuses = new TreeMap<>();

    Document(Path file) throws IOException {
        String text = Files.readString(file);
        text = text.substring(text.indexOf("## Terms"), text.indexOf("## Not promised"));
        readStatuses(text);
        text = text.replaceAll("(?m)^(```|## |Ahead of the calls ).*$", " ");
        text = text.replaceAll("(?m)^`[^`]*`: ", " ");
        words = folded(text.replaceAll("==== \\d\\.", " "));
        quoted = new boolean[words.length()];
    }

    private static String folded(String text) {
        return text.replaceAll("\\s+", " ").trim();
    }

    private void readStatuses(String text) {
        Matcher promise = Pattern.compile("(?m)^## Promise .*\\n\\n`[^`]*?(\\w+)\\([^`]*`: (.*)$").matcher(text);
        while (promise.find()) {
            List<Integer> found = new ArrayList<>();
            Matcher brackets = Pattern.compile("\\(([^()]*)\\)").matcher(promise.group(2));
            String last = "";
            while (brackets.find()) {
                last = brackets.group(1);
            }
            for (String part : last.split("[;,]")) {
                if (part.trim().matches("\\d(:.*)?")) {
                    found.add(part.trim().charAt(0) - '0');
                }
            }
            statuses.put(promise.group(1), found);
        }
    }

    Map<String, List<Integer>> statuses() {
        return statuses;
    }

    /** Whether these words stand in the document; they count as quoted from now on. */
    boolean quote(String sentence) {
        String sought = folded(sentence);
        int at = words.indexOf(sought);
        boolean found = at >= 0;
        while (at >= 0) {
            for (int k = 0; k < sought.length(); k++) {
                quoted[at + k] = true;
            }
            at = words.indexOf(sought, at + 1);
        }
        return found;
    }

    /** What nobody has quoted, but for the signs between the quotes. */
    List<String> unquoted() {
        List<String> all = new ArrayList<>();
        StringBuilder passage = new StringBuilder();
        for (int k = 0; k <= words.length(); k++) {
            if (k < words.length() && !quoted[k]) {
                passage.append(words.charAt(k));
            } else {
                if (passage.toString().matches(".*\\w.*")) {
                    all.add(passage.toString().trim());
                }
                passage.setLength(0);
            }
        }
        return all;
    }
}
