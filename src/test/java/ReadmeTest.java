import java.io.IOException;
import java.lang.reflect.Method;
import java.lang.reflect.Modifier;
import java.nio.file.Files;
import java.nio.file.Path;
import java.util.Set;
import java.util.TreeSet;
import java.util.regex.Matcher;
import java.util.regex.Pattern;
import java.util.stream.Stream;

/** What README.md says: the calls that it shows answer what stands behind them, and what it names is there. */
public final class ReadmeTest {
    private static final Due DUE = new Due("ReadmeTest");
    private static final Path README = Path.of("README.md");
    private static final Path TESTS = Path.of("src/test/java");
    private static final Pattern SHOWN = Pattern.compile("bench\\.(\\w+)\\((.*)\\); +// (-?\\d+): \\S.*");
    private static final Pattern NO_CALL = Pattern.compile("|// .*|BarnBench bench = new BarnBench\\(\\);");
    private static final Pattern QUOTED = Pattern.compile("`([^`\n]+)`");

    public static void main(String[] args) throws IOException, ReflectiveOperationException {
        String text = Files.readString(README);
        calls(text);
        findings(text);
        names(text);
        commands(text);
        DUE.end();
    }

    private static void calls(String text) throws ReflectiveOperationException {
        BarnBench bench = new BarnBench();
        Set<String> shown = new TreeSet<>();
        for (String line : between(text, "```java\n", "```").split("\n")) {
            Matcher call = SHOWN.matcher(line);
            if (call.matches()) {
                shown.add(call.group(1));
                DUE.due(line, answer(bench, call.group(1), call.group(2)), Long.parseLong(call.group(3)));
            } else {
                DUE.due("a line that shows no answer: " + line, NO_CALL.matcher(line).matches() ? 0 : 1, 0);
            }
        }
        for (Method method : BarnBench.class.getDeclaredMethods()) {
            if (Modifier.isPublic(method.getModifiers())) {
                DUE.due("shown: " + method.getName(), shown.contains(method.getName()) ? 1 : 0, 1);
            }
        }
    }

    private static long answer(BarnBench bench, String name, String given) throws ReflectiveOperationException {
        String[] parts = given.isEmpty() ? new String[0] : given.split(", ");
        for (Method method : BarnBench.class.getMethods()) {
            if (method.getName().equals(name) && method.getParameterCount() == parts.length) {
                return ((Number) method.invoke(bench, arguments(method.getParameterTypes(), parts))).longValue();
            }
        }
        throw new IllegalArgumentException("no such call: " + name + "(" + given + ")");
    }

    private static Object[] arguments(Class<?>[] types, String[] parts) {
        Object[] all = new Object[parts.length];
        for (int i = 0; i < parts.length; i++) {
            if (types[i] == boolean.class) {
                all[i] = Boolean.valueOf(parts[i]);
            } else if (types[i] == long.class) {
                all[i] = Long.valueOf(parts[i]);
            } else {
                all[i] = Integer.valueOf(parts[i]);
            }
        }
        return all;
    }

    private static void findings(String text) {
        String due = "";
        for (String sentence : new Document().sentencesOf("Terms")) {
            if (sentence.startsWith("FINDINGS ")) {
                due = sentence.replaceFirst(".*: ", "");
            }
        }
        String plain = text.replaceAll("\\s+", " ");
        DUE.due("the document names findings", due.isEmpty() ? 0 : 1, 1);
        DUE.due("findings as the document names them", plain.contains("are findings: " + due) ? 1 : 0, 1);
    }

    /** Files that are named are there; every class of the tests and inside the class is named. */
    private static void names(String text) throws IOException {
        Set<String> quoted = new TreeSet<>();
        Matcher matcher = QUOTED.matcher(text.replaceAll("(?s)```.*?```", ""));
        while (matcher.find()) {
            quoted.add(matcher.group(1));
        }
        Set<String> classes = new TreeSet<>();
        for (Class<?> inside : BarnBench.class.getDeclaredClasses()) {
            classes.add(inside.getSimpleName());
        }
        try (Stream<Path> files = Files.list(TESTS)) {
            files.forEach(file -> classes.add(file.getFileName().toString().replace(".java", "")));
        }
        for (String name : classes) {
            DUE.due("named: " + name, quoted.contains(name) ? 1 : 0, 1);
        }
        for (String name : quoted) {
            if (name.matches("[A-Z]\\w*")) {
                DUE.due("a class: " + name, classes.contains(name) ? 1 : 0, 1);
            } else if (name.contains("/") && !name.contains("*")) {
                DUE.due("a file: " + name, Files.exists(Path.of(name)) ? 1 : 0, 1);
            }
        }
    }

    private static void commands(String text) {
        String compile = between(text, "```sh\n", "```");
        DUE.due("the class in the command", compile.contains(" src/main/java/BarnBench.java ") ? 1 : 0, 1);
        DUE.due(".ci/run can be run", Files.isExecutable(Path.of(".ci/run")) ? 1 : 0, 1);
    }

    private static String between(String text, String opening, String closing) {
        int from = text.indexOf(opening);
        int to = from < 0 ? -1 : text.indexOf(closing, from + opening.length());
        return to < 0 ? "" : text.substring(from + opening.length(), to);
    }
}
