import java.io.IOException;
import java.lang.reflect.Constructor;
import java.lang.reflect.Field;
import java.lang.reflect.Method;
import java.lang.reflect.Modifier;
import java.nio.file.Files;
import java.nio.file.Path;
import java.util.ArrayList;
import java.util.List;
import java.util.TreeSet;
import java.util.regex.Matcher;
import java.util.regex.Pattern;

/** The document's face, and the rules of LANGUAGE.md that can be read off the source and the compiled class. */
public final class LanguageTest {
    private static final String[] FACE = {
        "int row(int,int,int)", "int set(int,int,int)", "int copy(int,int,int,int,int)", "int drop(int)", "int feed(int)",
        "int flat()", "int fault()", "int undo()", "int tides(int)", "int rake(int,int)", "int rain(int,int)",
        "int veto(int,int)", "int stand(int,int)", "int bed(int,int)", "int board(int)", "int ahead(int,int,int)",
        "int tally(int,int)", "int when(int,int)", "int place(int,int)", "int rests(int)", "int rakes(int,int)",
        "int wards(int,int,int)", "int decide()", "int grown(int,int,int,int,int)", "int lain(int,int,int)",
        "long flood(int,int,int)", "int drawn(int,int,int)", "int image(int)", "int restore(int)", "int kind(int)",
        "int as(int,int)", "int ask(int,int)", "int trace(int)", "int count(int)", "int status()",
    };
    private static final String[] FORBIDDEN = {
        "\\bthrows?\\b", "\\btry\\b", "\\bcatch\\b", "\\bsynchronized\\b", "\\bassert\\b", "\\bpackage\\b", "::", "Exact\\b",
        "\\bimport\\b(?!\\s+java\\.util\\.(ArrayList|List|Arrays|Iterator);)", "(?m)^(?!\\s*(case|default)\\b).*->",
        "\\b(boolean\\s+equals|int\\s+hashCode|String\\s+toString)\\s*\\(", "\\bhashCode\\(", "\\bThread\\b", "\\bRandom\\b",
        "System\\.(?!arraycopy\\b)", "static\\s*\\{",
    };

    public static void main(String[] args) throws IOException {
        face();
        classes();
        source(Files.readString(Path.of("src/main/java/CockleSquires.java")));
        Check.end();
    }

    private static String signature(Method m) {
        StringBuilder text = new StringBuilder(m.getReturnType() + " " + m.getName() + "(");
        for (int i = 0; i < m.getParameterCount(); i++) text.append(i == 0 ? "" : ",").append(m.getParameterTypes()[i]);
        return text.append(")").toString();
    }

    private static void face() {
        Check c = new Check("the face");
        TreeSet<String> due = new TreeSet<>(List.of(FACE));
        TreeSet<String> found = new TreeSet<>();
        for (Method m : CockleSquires.class.getDeclaredMethods()) {
            if (!Modifier.isPrivate(m.getModifiers()) && !m.isSynthetic()) found.add(signature(m));
        }
        c.due("the public methods " + found, found.equals(due) ? 1 : 0, 1);
        Constructor<?>[] made = CockleSquires.class.getDeclaredConstructors();
        c.due("one constructor", made.length, 1);
        c.due("without parameters", made[0].getParameterCount(), 0);
        c.due("public final", CockleSquires.class.getModifiers() & (Modifier.PUBLIC | Modifier.FINAL), Modifier.PUBLIC | Modifier.FINAL);
        int constants = 0;
        for (Field f : CockleSquires.class.getDeclaredFields()) {
            if (Modifier.isPublic(f.getModifiers())) constants++;
            else c.due(f + " is private", Modifier.isPrivate(f.getModifiers()) ? 1 : 0, 1);
        }
        c.due("public constants", constants, 4);
        c.due("NONE", CockleSquires.NONE, -1000000);
        c.due("BAD", CockleSquires.BAD, -1000001);
        c.due("STATE", CockleSquires.STATE, -1000002);
        c.due("FULL", CockleSquires.FULL, -1000003);
    }

    private static void classes() {
        Check c = new Check("the classes inside");
        TreeSet<String> names = new TreeSet<>();
        for (String method : FACE) names.add(method.substring(method.indexOf(' ') + 1, method.indexOf('(')));
        List<Class<?>> all = new ArrayList<>(List.of(CockleSquires.class.getDeclaredClasses()));
        c.due("some twelve at most", all.size() <= 14 ? 1 : 0, 1);
        for (Class<?> one : all) c.due(one + " is static", Modifier.isStatic(one.getModifiers()) ? 1 : 0, 1);
        all.add(CockleSquires.class);
        for (Class<?> one : all) {
            for (Method m : one.getDeclaredMethods()) {
                boolean isPrivate = Modifier.isPrivate(m.getModifiers());
                c.due(m + " bears a name of its own", isPrivate && names.contains(m.getName()) ? 1 : 0, 0);
            }
        }
        for (Class<?> one : all) {
            int fields = 0;
            for (Field f : one.getDeclaredFields()) {
                boolean isStatic = Modifier.isStatic(f.getModifiers());
                if (isStatic) c.due(f + " is final", Modifier.isFinal(f.getModifiers()) ? 1 : 0, 1);
                else fields++;
            }
            c.due(one + " has some twenty fields", fields <= 24 ? 1 : 0, 1);
            for (Method m : one.getDeclaredMethods()) c.due(m + " takes seven at most", m.getParameterCount() <= 7 ? 1 : 0, 1);
        }
    }

    private static void source(String text) {
        Check c = new Check("the source");
        String bare = text.replaceAll("(?s)/\\*.*?\\*/", " ").replaceAll("//[^\n]*", " ").replaceAll("'(\\\\.|[^'])'", "'x'")
            .replaceAll("\"(\\\\.|[^\"\\n\\\\])*\"", "\"x\"");
        for (String word : FORBIDDEN) {
            Matcher m = Pattern.compile(word).matcher(bare);
            c.due("has " + word, m.find() ? 1 : 0, 0);
        }
        for (int i = 0; i < text.length(); i++) {
            if (text.charAt(i) > 126) c.due("sign " + i, text.charAt(i), 0);
        }
        int length = 0;
        for (String line : text.split("\n", -1)) {
            if (line.matches(" {4,8}[a-z].*\\) \\{")) length = 0;
            length++;
            if (line.matches(" {4,8}\\}")) c.due("a method of some sixty lines", length <= 70 || line.equals("    }") ? 1 : 0, 1);
        }
    }
}
