import java.io.IOException;
import java.lang.reflect.Constructor;
import java.lang.reflect.Field;
import java.lang.reflect.Method;
import java.lang.reflect.Modifier;
import java.nio.file.Files;
import java.nio.file.Path;
import java.util.List;
import java.util.Set;
import java.util.StringJoiner;
import java.util.TreeSet;
import java.util.regex.Matcher;
import java.util.regex.Pattern;

/** The public face, and the rules of LANGUAGE.md that can be seen in the class or its source. */
public final class LanguageTest {
    private static final Due DUE = new Due("LanguageTest");
    private static final Path SOURCE = Path.of("src/main/java/BarnBench.java");
    private static final String FACE = "board put copy task after away as ask follows order span length early"
        + " tight toldCost longest cheapest slope bends bend within plan planned cost hurried tell check undo"
        + " keep back told";
    private static final String[] FORBIDDEN = {"throw", "try", "catch", "synchronized", "assert", "->", "::",
        "double", "float", "hashCode", "toString", "Exact", "package", "native", "volatile", "System\\.(?!arraycopy)",
        "import (?!java\\.util\\.Arrays;)"};

    public static void main(String[] args) throws IOException {
        face();
        signatures();
        classes();
        words(withoutComments(Files.readString(SOURCE)));
        methodLengths(Files.readAllLines(SOURCE));
        DUE.end();
    }

    private static void face() {
        Set<String> wanted = new TreeSet<>(List.of(FACE.split(" ")));
        Set<String> found = new TreeSet<>();
        int methods = 0;
        for (Method method : BarnBench.class.getDeclaredMethods()) {
            boolean isPrivate = Modifier.isPrivate(method.getModifiers());
            DUE.due("private or public: " + method, isPrivate || Modifier.isPublic(method.getModifiers()) ? 1 : 0, 1);
            if (isPrivate) {
                DUE.due("a name of the face: " + method, wanted.contains(method.getName()) ? 1 : 0, 0);
            } else {
                methods++;
                found.add(method.getName());
            }
        }
        DUE.due("the face is whole", found.equals(wanted) ? 1 : 0, 1);
        DUE.due("methods of the face", methods, 31);
        DUE.due("final", Modifier.isFinal(BarnBench.class.getModifiers()) ? 1 : 0, 1);
        Constructor<?>[] made = BarnBench.class.getDeclaredConstructors();
        DUE.due("constructors", made.length, 1);
        DUE.due("public constructor", Modifier.isPublic(made[0].getModifiers()) ? 1 : 0, 1);
        for (Field field : BarnBench.class.getDeclaredFields()) {
            DUE.due("private: " + field, Modifier.isPrivate(field.getModifiers()) ? 1 : 0, 1);
        }
    }

    /** Each public member as the document writes it, but for the names of parameters, and no other one. */
    private static void signatures() {
        Set<String> wanted = new TreeSet<>();
        for (String line : new Document().face()) {
            wanted.add(line.replaceAll(" \\w+(?=[,)])", ""));
        }
        Set<String> found = new TreeSet<>();
        for (Method method : BarnBench.class.getDeclaredMethods()) {
            if (!Modifier.isPrivate(method.getModifiers())) {
                found.add(written(Modifier.toString(method.getModifiers()) + " " + method.getReturnType()
                    + " " + method.getName(), method.getParameterTypes()));
            }
        }
        for (Constructor<?> made : BarnBench.class.getDeclaredConstructors()) {
            found.add(written(Modifier.toString(made.getModifiers()) + " BarnBench", made.getParameterTypes()));
        }
        DUE.due("members of the face in the document", wanted.size(), 32);
        for (String one : wanted) {
            DUE.due("in the class: " + one, found.contains(one) ? 1 : 0, 1);
        }
        for (String one : found) {
            DUE.due("in the document: " + one, wanted.contains(one) ? 1 : 0, 1);
        }
    }

    private static String written(String head, Class<?>[] types) {
        StringJoiner parameters = new StringJoiner(", ", "(", ")");
        for (Class<?> type : types) {
            parameters.add(type.getSimpleName());
        }
        return head + parameters;
    }

    private static void classes() {
        Class<?>[] inside = BarnBench.class.getDeclaredClasses();
        DUE.due("at most twelve classes", inside.length <= 11 ? 1 : 0, 1);
        fields(BarnBench.class);
        Set<String> face = new TreeSet<>(List.of(FACE.split(" ")));
        for (Class<?> one : inside) {
            DUE.due("static: " + one, Modifier.isStatic(one.getModifiers()) ? 1 : 0, 1);
            DUE.due("not public: " + one, Modifier.isPublic(one.getModifiers()) ? 1 : 0, 0);
            fields(one);
            for (Method method : one.getDeclaredMethods()) {
                DUE.due("a name of the face: " + method, face.contains(method.getName()) ? 1 : 0, 0);
                DUE.due("at most seven parameters: " + method, method.getParameterCount() <= 7 ? 1 : 0, 1);
            }
        }
    }

    private static void fields(Class<?> one) {
        int count = 0;
        for (Field field : one.getDeclaredFields()) {
            boolean isStatic = Modifier.isStatic(field.getModifiers());
            DUE.due("static fields are final: " + field,
                !isStatic || Modifier.isFinal(field.getModifiers()) ? 1 : 0, 1);
            count += isStatic ? 0 : 1;
        }
        DUE.due("at most twenty fields: " + one, count <= 20 ? 1 : 0, 1);
    }

    private static String withoutComments(String source) {
        return source.replaceAll("(?s)/\\*.*?\\*/", "").replaceAll("//[^\n]*", "");
    }

    private static void words(String source) {
        for (String word : FORBIDDEN) {
            String edge = Character.isLetter(word.charAt(0)) && !word.endsWith(")") && !word.equals("Exact") ? "\\b" : "";
            Matcher matcher = Pattern.compile(edge + word + edge).matcher(source);
            DUE.due("a word that the rules leave out: " + word, matcher.find() ? 1 : 0, 0);
        }
    }

    private static void methodLengths(List<String> lines) {
        int start = -1;
        String indent = "";
        Pattern head = Pattern.compile("^( {4}| {8})(?!static final|private static final class|final )\\S.*\\) \\{$");
        for (int i = 0; i < lines.size(); i++) {
            Matcher matcher = head.matcher(lines.get(i));
            if (start < 0 && matcher.find()) {
                start = i;
                indent = matcher.group(1);
            } else if (start >= 0 && lines.get(i).equals(indent + "}")) {
                DUE.due("at most sixty lines from " + lines.get(start).trim(), i - start < 60 ? 1 : 0, 1);
                start = -1;
            }
        }
    }
}
