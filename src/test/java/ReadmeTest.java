import java.io.IOException;
import java.lang.reflect.Method;
import java.lang.reflect.Modifier;
import java.net.URL;
import java.net.URLClassLoader;
import java.nio.file.DirectoryStream;
import java.nio.file.Files;
import java.nio.file.Path;
import java.util.ArrayList;
import java.util.List;
import java.util.Set;
import java.util.TreeSet;
import java.util.regex.Matcher;
import java.util.regex.Pattern;
import javax.tools.ToolProvider;

/** The calls that README.md shows are compiled and made: each must answer what stands behind it, up to a colon. */
public final class ReadmeTest {
    private static final Path README = Path.of("README.md");
    private static final Pattern CALL =
        Pattern.compile("\\s*(?:\\w+ (\\w+) = )?(stream\\.(\\w+)\\(.*\\));\\s*(?://\\s*([^:]*)(?::.*)?)?");
    private static final String THROWS = "throws ";
    private static final String NOTHING = "nothing";

    private static final Set<String> shown = new TreeSet<>();

    public static void main(String[] args) throws Exception {
        Path folder = Files.createTempDirectory("readme");
        try {
            for (String[] answer : answersOf(compiled(folder))) {
                Due.text(answer[0], answer[1], answer[2]);
            }
        } finally {
            remove(folder);
        }
        Due.text("calls that README.md shows", shown.toString(), callsOfTheFace().toString());
        Due.end();
    }

    private static URL compiled(Path folder) throws IOException {
        Path source = folder.resolve("Shown.java");
        Files.write(source, program(Files.readAllLines(README)));
        int exit = ToolProvider.getSystemJavaCompiler().run(null, null, null,
            "-cp", System.getProperty("java.class.path"), "-d", folder.toString(), source.toString());
        Due.answer("javac of README.md's calls", exit, 0);
        return folder.toUri().toURL();
    }

    @SuppressWarnings("unchecked")
    private static List<String[]> answersOf(URL folder) throws Exception {
        try (URLClassLoader loader = new URLClassLoader(new URL[] {folder})) {
            return (List<String[]>) loader.loadClass("Shown").getMethod("answers").invoke(null);
        }
    }

    /** One scope for each block of Java, since each begins with an object of its own. */
    private static List<String> program(List<String> readme) {
        List<String> made = new ArrayList<>();
        made.add("public final class Shown {");
        made.add("static final int NONE = ChangeStream.NONE, WAIT = ChangeStream.WAIT, GAP = ChangeStream.GAP;");
        made.add("public static java.util.List<String[]> answers() {");
        made.add("java.util.List<String[]> answers = new java.util.ArrayList<>();");
        boolean inside = false;
        for (int i = 0; i < readme.size(); i++) {
            String line = readme.get(i);
            if (inside && line.equals("```")) {
                made.add("}");
                inside = false;
            } else if (inside) {
                made.add(statement("README.md, line " + (i + 1) + ", ", line));
            } else if (line.equals("```java")) {
                made.add("{");
                inside = true;
            }
        }
        made.add("return answers; } }");
        return made;
    }

    private static String statement(String place, String line) {
        Matcher call = CALL.matcher(line);
        if (!call.matches()) {
            return line;
        }
        String name = call.group(1);
        String made = call.group(2);
        String title = place + made;
        String said = call.group(4) == null ? "" : call.group(4).strip();
        shown.add(call.group(3));
        Due.answer(title + ": an answer behind it", said.isEmpty(), false);
        if (said.startsWith(THROWS)) {
            return thrown(title, made, said);
        }
        Due.answer(title + ": nothing as answer", said.equals(NOTHING), answersNothing(call.group(3)));
        if (said.equals(NOTHING)) {
            return made + ";";
        }
        return name == null ? pair(title, made, said) : line.replaceFirst("//.*", "") + pair(title, name, said);
    }

    private static String thrown(String title, String made, String said) {
        String due = '"' + said + '"';
        return "try { " + made + "; " + pair(title, "\"throws nothing\"", due) + " } catch (RuntimeException e) { "
            + pair(title, "\"throws \" + e.getClass().getSimpleName()", due) + " }";
    }

    private static String pair(String title, String got, String want) {
        return "answers.add(new String[] {\"" + title + "\", \"\" + (" + got + "), \"\" + (" + want + ")});";
    }

    private static boolean answersNothing(String call) {
        for (Method method : ChangeStream.class.getDeclaredMethods()) {
            if (method.getName().equals(call)) {
                return method.getReturnType() == void.class;
            }
        }
        return false;
    }

    private static Set<String> callsOfTheFace() {
        Set<String> calls = new TreeSet<>();
        for (Method method : ChangeStream.class.getDeclaredMethods()) {
            if (Modifier.isPublic(method.getModifiers())) {
                calls.add(method.getName());
            }
        }
        return calls;
    }

    private static void remove(Path folder) throws IOException {
        try (DirectoryStream<Path> files = Files.newDirectoryStream(folder)) {
            for (Path file : files) {
                Files.delete(file);
            }
        }
        Files.delete(folder);
    }
}
