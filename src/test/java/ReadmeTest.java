import java.io.IOException;
import java.lang.reflect.Method;
import java.lang.reflect.Modifier;
import java.net.URL;
import java.net.URLClassLoader;
import java.nio.file.Files;
import java.nio.file.Path;
import java.util.ArrayList;
import java.util.List;
import java.util.TreeSet;
import java.util.regex.Matcher;
import java.util.regex.Pattern;
import javax.tools.JavaCompiler;
import javax.tools.ToolProvider;

/** What README.md shows of the use of the class: its Java parts are compiled as they stand there, and run. */
public final class ReadmeTest {
    private static final Pattern CALL = Pattern.compile("(search\\.(\\w+)\\(.*\\)); +// (-?\\d+|[A-Z]+)(:.*)?");
    private static final Pattern SET_UP = Pattern.compile("PatternSearch search = .*;|for \\(.*\\) search\\.(pattern|text)\\(sign\\);");

    /** One line of a Java part that has an answer behind it. */
    private record Shown(String call, String name, String answer) {
    }

    public static void main(String[] args) throws Exception {
        List<String> lines = Files.readAllLines(Path.of("README.md"));
        List<List<String>> parts = javaParts(lines);
        TreeSet<String> used = new TreeSet<>();
        Check.due("README.md shows the use of the class", parts.isEmpty(), false);
        Class<?> compiled = compile(sourceOf(parts));
        for (int part = 0; part < parts.size(); part++) {
            checkPart(part, parts.get(part), (int[]) compiled.getMethod("part" + part).invoke(null), used);
        }
        Check.due("the methods that README.md shows", used, methodsOf(PatternSearch.class));
        tellsHowToRunTheTests(lines);
        Check.end();
    }

    private static List<List<String>> javaParts(List<String> lines) {
        List<List<String>> parts = new ArrayList<>();
        boolean inside = false;
        for (String line : lines) {
            if (line.startsWith("```")) {
                inside = line.equals("```java");
                if (inside) {
                    parts.add(new ArrayList<>());
                }
            } else if (inside) {
                parts.get(parts.size() - 1).add(line);
            }
        }
        return parts;
    }

    /** Null for a line that shows no answer. */
    private static Shown shownBy(String line) {
        Matcher matcher = CALL.matcher(line);
        return matcher.matches() ? new Shown(matcher.group(1), matcher.group(2), matcher.group(3)) : null;
    }

    private static List<Shown> shownIn(List<String> part) {
        List<Shown> all = new ArrayList<>();
        for (String line : part) {
            Shown shown = shownBy(line);
            if (shown != null) {
                all.add(shown);
            }
        }
        return all;
    }

    private static String sourceOf(List<List<String>> parts) {
        StringBuilder source = new StringBuilder("public final class ReadmeUse {\n");
        for (int part = 0; part < parts.size(); part++) {
            source.append("public static int[] part").append(part).append("() {\n");
            source.append("int[] answers = new int[").append(shownIn(parts.get(part)).size()).append("];\n");
            int index = 0;
            for (String line : parts.get(part)) {
                boolean answers = shownBy(line) != null;
                source.append(answers ? "answers[" + index + "] = " : "").append(line).append('\n');
                index += answers ? 1 : 0;
            }
            source.append("return answers;\n}\n");
        }
        return source.append("}\n").toString();
    }

    private static Class<?> compile(String source) throws IOException, ClassNotFoundException {
        Path folder = Files.createDirectories(Path.of("build", "readme"));
        Path file = Files.writeString(folder.resolve("ReadmeUse.java"), source);
        JavaCompiler compiler = ToolProvider.getSystemJavaCompiler();
        String classes = System.getProperty("java.class.path");
        int exit = compiler.run(null, null, null, "-cp", classes, "-d", folder.toString(), file.toString());
        Check.due("the compiler's answer for the Java parts of README.md", exit, 0);
        // Not closed: its class is used up to the end of the test.
        return new URLClassLoader(new URL[] {folder.toUri().toURL()}).loadClass("ReadmeUse");
    }

    private static void checkPart(int part, List<String> lines, int[] answers, TreeSet<String> used) {
        for (String line : lines) {
            boolean known = shownBy(line) != null || SET_UP.matcher(line).matches();
            Check.due("README.md, part " + part + ", shows an answer or sets up: " + line, known, true);
        }
        List<Shown> shown = shownIn(lines);
        for (int i = 0; i < answers.length; i++) {
            Check.due("README.md, part " + part + ", " + shown.get(i).call(), answers[i], numberOf(shown.get(i).answer()));
            used.add(shown.get(i).name());
        }
    }

    private static int numberOf(String answer) {
        switch (answer) {
            case "REFUSED":
                return Check.REFUSED;
            case "NONE":
                return Check.NONE;
            case "BAD":
                return Check.BAD;
            case "ENDLESS":
                return Check.ENDLESS;
            case "LARGE":
                return Check.LARGE;
            default:
                return Integer.parseInt(answer);
        }
    }

    private static TreeSet<String> methodsOf(Class<?> owner) {
        TreeSet<String> names = new TreeSet<>();
        for (Method method : owner.getDeclaredMethods()) {
            if (Modifier.isPublic(method.getModifiers())) {
                names.add(method.getName());
            }
        }
        return names;
    }

    private static void tellsHowToRunTheTests(List<String> lines) throws IOException {
        Check.due("README.md tells how to run the tests", lines.contains("    .ci/run"), true);
        Check.due(".ci/run can be run", Files.isExecutable(Path.of(".ci", "run")), true);
        try (var files = Files.list(Path.of("src", "test", "java"))) {
            for (Path file : files.toList()) {
                String name = file.getFileName().toString();
                String row = "| `" + name.replace(".java", "") + "` |";
                boolean named = lines.stream().anyMatch(line -> line.startsWith(row));
                Check.due("README.md names the test " + name, named, name.endsWith("Test.java"));
            }
        }
    }
}
