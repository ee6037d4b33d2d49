import java.io.IOException;
import java.lang.reflect.Field;
import java.lang.reflect.Method;
import java.lang.reflect.Modifier;
import java.nio.file.Files;
import java.nio.file.Path;
import java.util.Set;
import java.util.TreeSet;
import java.util.regex.Pattern;

/** The public face as the document has it, and what of LANGUAGE.md can be seen in the class and the text. */
public final class FaceTest {
    private static final String[] CALLS = {
        "int feed(int, int, int, int, int)", "boolean end(int)", "int fault(int)", "int text(int)", "int rule(int)",
        "int told(int, int)", "int device(int, int) throws java.util.NoSuchElementException", "int port(int, int)",
        "int hub(int, int)", "int octet(int, int)", "int at(int)", "int helper(int)", "int plug(int, int, int)",
        "int unplug(int)", "int tick(int)", "int supply(int)", "int error(int, int)", "int again(int)", "int sleep(int)",
        "int years(int, long)", "int status(int)", "int undo()", "int log(int, int)", "int when(int)",
        "int ahead(int, int)", "int last()", "int place(int)", "int order(int)", "int lost(int)", "int shares(int, int)",
        "int step(int, int, int)", "int run(int, int)", "int perform(int)", "int all(int)", "int image()", "int back()",
        "int count(int)",
    };
    private static final String[] BANNED = {
        "\\bcatch\\b", "\\btry\\b", "\\bfinally\\b", "->", "::", "\\bsynchronized\\b", "\\bassert\\b", "\\binstanceof\\b",
        "\"\\s*\\+", "\\+\\s*\"", "\\bMath\\.\\w+Exact\\b", "\\bRandom\\b", "\\bThread\\b", "\\bcurrentTimeMillis\\b",
        "\\bnanoTime\\b", "\\bdouble\\b", "\\bfloat\\b", "\\bObject\\b", "\\bprotected\\b", "\\bvar\\b",
    };

    private FaceTest() {}

    public static void main(String[] args) throws IOException {
        face();
        source();
        Checks.finish();
    }

    private static void face() {
        Class<?> c = HubTree.class;
        Checks.holds("public and final", Modifier.isPublic(c.getModifiers()) && Modifier.isFinal(c.getModifiers()));
        Checks.due("one constructor", 1, c.getDeclaredConstructors().length);
        Checks.due("and it takes nothing", 1, c.getConstructors()[0].getParameterCount() + 1);
        Set<String> due = new TreeSet<>();
        for (String call : CALLS) {
            int space = call.indexOf(' ');
            due.add("public " + call.substring(0, space) + " HubTree." + call.substring(space + 1).replace(", ", ","));
        }
        Set<String> names = new TreeSet<>();
        for (String call : CALLS) {
            names.add(call.substring(call.indexOf(' ') + 1, call.indexOf('(')));
        }
        for (Method m : c.getDeclaredMethods()) {
            if (!Modifier.isPrivate(m.getModifiers())) {
                Checks.holds("of the face: " + m, due.remove(m.toString()));
            } else {
                Checks.holds("no name of the face: " + m, !names.contains(m.getName()));
            }
        }
        Checks.holds("all of the face: " + due, due.isEmpty());
        for (Field f : c.getDeclaredFields()) {
            boolean constant = f.getName().equals("NONE") || f.getName().equals("HIDDEN");
            Checks.holds("field " + f, constant == Modifier.isPublic(f.getModifiers()));
            Checks.holds("private " + f, constant || Modifier.isPrivate(f.getModifiers()));
        }
        Checks.holds("at most twelve classes", c.getDeclaredClasses().length <= 11);
        for (Class<?> inner : c.getDeclaredClasses()) {
            Checks.holds("static: " + inner, Modifier.isStatic(inner.getModifiers()));
            for (Method m : inner.getDeclaredMethods()) {
                Checks.holds("no name of the face: " + m, !names.contains(m.getName()));
                Checks.holds("seven parameters: " + m, m.getParameterCount() <= 7);
            }
        }
    }

    private static void source() throws IOException {
        String text = Files.readString(Path.of("src/main/java/HubTree.java"));
        String code = text.replaceAll("(?s)/\\*.*?\\*/", "").replaceAll("//[^\n]*", "");
        for (String banned : BANNED) {
            Checks.holds("without " + banned, !Pattern.compile(banned).matcher(code).find());
        }
        for (int i = 0; i < text.length(); i++) {
            Checks.holds("signs 10, 32 to 126", text.charAt(i) == '\n' || text.charAt(i) >= 32 && text.charAt(i) < 127);
        }
        String[] lines = code.split("\n");
        int from = 0;
        for (int i = 0; i < lines.length; i++) {
            boolean head = lines[i].matches("( {4}| {8})(\\w+ )*[\\w\\[\\]]+ ?\\(?.*\\) (throws \\w+ )?\\{");
            if (head && !lines[i].trim().matches("(if|for|while|switch|\\}).*")) {
                from = i;
            }
            if (lines[i].matches("( {4}| {8})\\}")) {
                Checks.holds("some sixty lines, at line " + from, i - from <= 60);
            }
            // Rows are made once: what is new stands in a field's line, or is thrown.
            if (lines[i].contains("new ")) {
                Checks.holds("made once: " + lines[i], lines[i].matches(" *((private )?final .* = new .*|throw new .*)"));
            }
            if (lines[i].startsWith("import")) {
                Checks.holds("import " + lines[i], lines[i].matches("import java.util.(Arrays|NoSuchElementException);"));
            }
        }
    }
}
