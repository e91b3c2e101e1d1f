import java.io.IOException;
import java.lang.reflect.Method;
import java.lang.reflect.Modifier;
import java.nio.file.Files;
import java.nio.file.Path;
import java.util.regex.Matcher;
import java.util.regex.Pattern;

/** README.md: its example answers as it says there, and it names every call and every constant. */
public final class ReadmeTest {
    private static final Pattern TEXT = Pattern.compile("String text = \"([^\"]*)\";");
    private static final Pattern CALL = Pattern.compile("= x\\.(\\w+)\\(([0-9, -]*)\\);\\s*// (-?\\d+)");

    public static void main(String[] args) throws IOException {
        String readme = Files.readString(Path.of("README.md"));
        Check c = new Check("README.md");
        example(c, readme.substring(readme.indexOf("```java"), readme.indexOf("```", readme.indexOf("```java") + 3)));
        for (Method m : CockleSquires.class.getDeclaredMethods()) {
            if (Modifier.isPublic(m.getModifiers())) c.due("names " + m.getName(), readme.contains("`" + m.getName() + "`") ? 1 : 0, 1);
        }
        names(c, readme, "NONE", CockleSquires.NONE);
        names(c, readme, "BAD", CockleSquires.BAD);
        names(c, readme, "STATE", CockleSquires.STATE);
        names(c, readme, "FULL", CockleSquires.FULL);
        Check.end();
    }

    private static void names(Check c, String readme, String constant, int number) {
        c.due("tells " + constant, readme.contains("`" + constant + "` " + number + " ") ? 1 : 0, 1);
    }

    private static void example(Check c, String lines) {
        CockleSquires x = new CockleSquires();
        Matcher text = TEXT.matcher(lines);
        c.due("has a text", text.find() ? 1 : 0, 1);
        Check.feed(x, text.group(1));
        Matcher call = CALL.matcher(lines);
        int calls = 0;
        while (call.find()) {
            calls++;
            c.due(call.group(1) + "(" + call.group(2) + ")", Calls.answer(x, call.group(1), numbers(call.group(2))), Long.parseLong(call.group(3)));
        }
        c.due("calls", calls, 6);
    }

    private static int[] numbers(String listed) {
        if (listed.isBlank()) return new int[0];
        String[] parts = listed.split(",");
        int[] numbers = new int[parts.length];
        for (int i = 0; i < parts.length; i++) numbers[i] = Integer.parseInt(parts[i].strip());
        return numbers;
    }
}
