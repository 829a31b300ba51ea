import java.io.IOException;
import java.lang.reflect.Method;
import java.lang.reflect.Modifier;
import java.net.URL;
import java.net.URLClassLoader;
import java.nio.file.Files;
import java.nio.file.Path;
import java.util.ArrayList;
import java.util.HashMap;
import java.util.HashSet;
import java.util.List;
import java.util.Map;
import java.util.Set;
import java.util.regex.Matcher;
import java.util.regex.Pattern;
import javax.tools.ToolProvider;

/** The calls that README.md shows in its java blocks, compiled as they stand there, answer what it says of them. */
public final class ReadmeTest {
    private static final Path README = Path.of("README.md");
    private static final String MADE = "ReadmeCalls";
    private static final Pattern NEW_OBJECT = Pattern.compile("OrderBounds \\w+ = new OrderBounds\\(\\);");
    private static final Pattern SHOWN = Pattern.compile("((?:int|long) (\\w+) = )?(\\w+\\.(\\w+)\\(.*\\));(.*)");
    private static final Pattern ANSWER = Pattern.compile("\\s*// -> (-?\\d+|\\w+Exception)(: .*)?");
    private static final String NOTHING = "nothing";

    /** A call, and what README.md says that it answers. */
    private record Call(String where, String name, String answer) {
    }

    public static void main(String[] args) throws Exception {
        List<Call> calls = new ArrayList<>();
        String code = codeOf(Files.readAllLines(README), calls);
        List<String> answers = answersOf(code);
        Due.is("calls that were made", calls.size(), answers.size());
        for (int i = 0; i < Math.min(calls.size(), answers.size()); i++) {
            Call call = calls.get(i);
            Due.isTrue(call.where() + " answered " + answers.get(i) + ", it says " + call.answer(),
                    answers.get(i).equals(call.answer()));
        }
        wholeFaceIsShown(calls);
        Due.end();
    }

    /** Each line of a java block is a new object or a call; the code that is made gives back the calls' answers. */
    private static String codeOf(List<String> lines, List<Call> calls) {
        Map<String, Class<?>> kinds = kindsOfFace();
        StringBuilder code = new StringBuilder("import java.util.*;\npublic final class " + MADE + " {\n"
                + "public static List<String> answers() {\nList<String> answers = new ArrayList<>();\n");
        boolean inside = false;
        for (int i = 0; i < lines.size(); i++) {
            String line = lines.get(i);
            String where = README + ":" + (i + 1) + ": " + line.trim();
            if (line.startsWith("```")) {
                inside = line.equals("```java");
            } else if (inside && !line.isBlank()) {
                Matcher shown = SHOWN.matcher(line);
                boolean isCall = shown.matches();
                Due.isTrue(where + " is a call or a new object", isCall || NEW_OBJECT.matcher(line).matches());
                code.append(isCall ? codeOfCall(where, shown, kinds, calls) : line + "\n");
            }
        }
        return code.append("return answers;\n}\n}\n").toString();
    }

    private static String codeOfCall(String where, Matcher shown, Map<String, Class<?>> kinds, List<Call> calls) {
        Matcher said = ANSWER.matcher(shown.group(5));
        String name = shown.group(4);
        boolean isVoid = kinds.get(name) == void.class;
        Due.isTrue(where + " tells its answer", said.matches() || isVoid);
        calls.add(new Call(where, name, said.matches() ? said.group(1) : NOTHING));
        if (shown.group(1) != null) {
            return shown.group(1) + shown.group(3) + "; answers.add(\"\" + " + shown.group(2) + ");\n";
        }
        String made = isVoid
                ? shown.group(3) + "; answers.add(\"" + NOTHING + "\");"
                : "answers.add(\"\" + " + shown.group(3) + ");";
        return "try { " + made + " } catch (RuntimeException e) { answers.add(e.getClass().getSimpleName()); }\n";
    }

    private static Map<String, Class<?>> kindsOfFace() {
        Map<String, Class<?>> kinds = new HashMap<>();
        for (Method m : OrderBounds.class.getDeclaredMethods()) {
            if (Modifier.isPublic(m.getModifiers())) {
                kinds.put(m.getName(), m.getReturnType());
            }
        }
        return kinds;
    }

    private static List<String> answersOf(String code) throws IOException, ReflectiveOperationException {
        Path folder = Files.createTempDirectory("readme");
        Path source = folder.resolve(MADE + ".java");
        Path compiled = folder.resolve(MADE + ".class");
        try {
            Files.writeString(source, code);
            int failed = ToolProvider.getSystemJavaCompiler().run(null, null, null, "--release", "17",
                    "-cp", System.getProperty("java.class.path"), "-d", folder.toString(), source.toString());
            Due.is("javac of what README.md shows", 0, failed);
            return failed == 0 ? answersIn(folder) : List.of();
        } finally {
            for (Path path : List.of(source, compiled, folder)) {
                Files.deleteIfExists(path);
            }
        }
    }

    private static List<String> answersIn(Path folder) throws IOException, ReflectiveOperationException {
        URL[] where = {folder.toUri().toURL()};
        List<String> answers = new ArrayList<>();
        try (URLClassLoader loader = new URLClassLoader(where, ReadmeTest.class.getClassLoader())) {
            for (Object answer : (List<?>) loader.loadClass(MADE).getMethod("answers").invoke(null)) {
                answers.add((String) answer);
            }
        }
        return answers;
    }

    private static void wholeFaceIsShown(List<Call> calls) {
        Set<String> names = new HashSet<>();
        for (Call call : calls) {
            names.add(call.name());
        }
        Due.isTrue("README.md shows the calls " + names, names.equals(kindsOfFace().keySet()));
    }
}
