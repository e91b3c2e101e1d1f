import java.io.IOException;
import java.nio.file.Files;
import java.nio.file.Path;
import java.util.ArrayList;
import java.util.LinkedHashMap;
import java.util.List;
import java.util.Map;

/** The document's terms and promises, passage by passage, and what of them has been quoted. */
final class Document {
    private static final class Passage {
        final String text;
        final boolean[] quoted;

        Passage(String text) {
            this.text = text.replace("```text", " ").replace("```", " ").replaceAll("\\s+", " ").strip();
            this.quoted = new boolean[this.text.length()];
        }
    }

    private final Map<String, Passage> passages = new LinkedHashMap<>();

    Document(Path path) throws IOException {
        String all = Files.readString(path);
        String terms = between(all, "\n## Terms\n", "\nAhead of the calls ");
        String[] parts = terms.split("======== \\d ");
        for (int i = 0; i < parts.length; i++) passages.put(i == 0 ? "Terms" : "Terms " + i, new Passage(parts[i]));
        for (int i = 1; all.contains("\n## Promise " + i + ":"); i++) {
            String promise = between(all, "\n## Promise " + i + ":", "\n## ");
            passages.put("Promise " + i, new Passage(promise.substring(promise.indexOf("`: ") + 3)));
        }
    }

    private static String between(String all, String from, String to) {
        int begin = all.indexOf(from) + from.length();
        return all.substring(begin, all.indexOf(to, begin));
    }

    int passages() {
        return passages.size();
    }

    boolean quote(String name, String sentence) {
        Passage passage = passages.get(name);
        int at = passage == null ? -1 : passage.text.indexOf(sentence);
        if (at < 0) return false;
        for (int i = at; i < at + sentence.length(); i++) passage.quoted[i] = true;
        return true;
    }

    /** What no run quotes; signs between two quotes do not matter. */
    List<String> unquoted() {
        List<String> left = new ArrayList<>();
        for (Map.Entry<String, Passage> one : passages.entrySet()) {
            Passage passage = one.getValue();
            StringBuilder words = new StringBuilder();
            for (int i = 0; i <= passage.quoted.length; i++) {
                boolean ends = i == passage.quoted.length || passage.quoted[i];
                if (!ends) words.append(passage.text.charAt(i));
                if (ends && words.toString().matches(".*[A-Za-z0-9].*")) left.add(one.getKey() + ": " + words);
                if (ends) words.setLength(0);
            }
        }
        return left;
    }
}
