import java.io.IOException;
import java.nio.file.Files;
import java.nio.file.Path;
import java.util.regex.Matcher;
import java.util.regex.Pattern;

/**
 * The runs of src/test/sentences.txt: below each sentence of the document, which is quoted, the calls on a new object
 * that would be answered otherwise if it were broken. No word of the terms and promises may be left unquoted.
 */
public final class SentencesTest {
    private static final int MOST_CALLS = 512;
    private static final Pattern CALL = Pattern.compile("(?:(\\d+)\\*)?([a-z]+)\\(([^)]*)\\)(?:=(\\S+))?\\s*");

    /** Whoever is asked: the class, or the model, of which the same answers are due. */
    private interface Asked {
        long answer(String name, int... v);
    }

    private final Check check;
    private final Asked asked;
    private int calls = 0;
    private String seen = "";

    private SentencesTest(String who, Asked asked) {
        this.check = new Check(who);
        this.asked = asked;
    }

    public static void main(String[] args) throws IOException {
        Document document = new Document(Path.of("../shared/DOC.md"));
        Check c = new Check("sentences.txt");
        c.due("five passages of terms, 36 promises", document.passages(), 5 + 36);
        String passage = "";
        StringBuilder quotes = new StringBuilder();
        StringBuilder run = new StringBuilder();
        for (String line : (Files.readString(Path.of("src/test/sentences.txt")) + "\n> ").split("\n")) {
            boolean isQuote = line.startsWith("> ");
            boolean isPassage = line.startsWith("=== ");
            if ((isQuote || isPassage) && run.length() > 0) {
                runBoth(passage + quotes, run.toString());
                quotes.setLength(0);
                run.setLength(0);
            }
            if (isPassage) passage = line.substring(4);
            else if (isQuote) quotes.append(' ').append(line);
            else if (!line.startsWith("#")) run.append(line).append(line.isBlank() ? "" : "\n");
            if (isQuote && line.length() > 2) c.due(passage + " says: " + line, document.quote(passage, line.substring(2)) ? 1 : 0, 1);
        }
        for (String words : document.unquoted()) c.due(words + " | is quoted", 0, 1);
        Check.end();
    }

    private static void runBoth(String who, String run) {
        CockleSquires x = new CockleSquires();
        new SentencesTest(who, (name, v) -> Calls.answer(x, name, v)).run(run);
        Model m = new Model();
        new SentencesTest("the model, " + who, m::answer).run(run);
    }

    private void run(String text) {
        for (String line : text.split("\n")) {
            Matcher m = CALL.matcher(line.strip());
            int end = 0;
            while (m.find() && m.start() == end) {
                end = m.end();
                for (int i = times(m.group(1)); i > 0; i--) once(m.group(2), m.group(3), m.group(4));
            }
            if (end != line.strip().length()) throw new IllegalArgumentException("no run: " + line);
        }
        check.due("at most 512 calls, of " + calls, calls <= MOST_CALLS ? 1 : 0, 1);
    }

    private static int times(String told) {
        return told == null ? 1 : Integer.parseInt(told);
    }

    private void once(String name, String told, String due) {
        long got = said(name, told);
        if (due != null) check.due(name + "(" + told + ")", got, number(due));
    }

    /** Behind the calls of the face there are some words that stand for more of them. */
    private long said(String name, String told) {
        switch (name) {
            case "read":
                for (int i = 0; i < told.length(); i++) call("feed", told.charAt(i));
                return call("flat");
            case "text":
                for (int i = 0; i < told.length(); i++) call("feed", told.charAt(i));
                return told.length();
            case "write":
                return write(numbers(told));
            case "holds":
                return holds(numbers(told));
            case "look":
                seen = picture();
                return 0;
            case "same":
                return picture().equals(seen) ? 1 : 0;
            default:
                return call(name, numbers(told));
        }
    }

    private long call(String name, int... v) {
        calls++;
        return asked.answer(name, v);
    }

    /** Whether an item is v (0 to 99): a warm bed without warmth keeps its stock, so GROWN tells it; the flat is lost. */
    private int holds(int[] v) {
        said("read", "l0,0,1;w" + v[2] + ",0;");
        return (call("grown", 0, 0, v[0], v[1], 1) & 1 << 4) != 0 ? 1 : 0;
    }

    /** A row of ints: its number, then its items. */
    private long write(int[] v) {
        call("row", v[0], 2, v.length - 1);
        for (int i = 1; i < v.length; i++) call("set", v[0], i - 1, v[i]);
        return v.length - 1;
    }

    /** All that can be seen without a change, but for status(). */
    private String picture() {
        StringBuilder all = new StringBuilder();
        for (int what = 0; what < 8; what++) all.append(call("count", what)).append(' ');
        for (int what = 0; what < 6; what++) all.append(call("board", what)).append(' ');
        for (int bed = 0; call("kind", bed) > 0; bed++) {
            all.append(call("kind", bed)).append(' ');
            for (int what = 0; what < 4; what++) all.append(call("bed", bed, what)).append(' ');
        }
        for (int i = 0; i < 6; i++) all.append(call("trace", i)).append(' ');
        return all.append(call("fault")).toString();
    }

    private static int[] numbers(String told) {
        if (told.isBlank()) return new int[0];
        String[] words = told.split(",");
        int[] v = new int[words.length];
        for (int i = 0; i < v.length; i++) v[i] = (int) number(words[i].strip());
        return v;
    }

    private static long number(String word) {
        switch (word) {
            case "NONE": return Check.NONE;
            case "BAD": return Check.BAD;
            case "STATE": return Check.STATE;
            case "FULL": return Check.FULL;
            case "NULL": return Check.NULL;
            case "PLACE": return Check.PLACE;
            case "KIND": return Check.KIND;
            case "SIZE": return Check.SIZE;
            case "STORE": return Check.STORE;
            case "max": return Integer.MAX_VALUE;
            case "min": return Integer.MIN_VALUE;
            default: return word.startsWith("@") ? -1000100 - Long.parseLong(word.substring(1)) : Long.parseLong(word);
        }
    }
}
