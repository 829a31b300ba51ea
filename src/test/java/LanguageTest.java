import java.io.IOException;
import java.lang.reflect.Constructor;
import java.lang.reflect.Field;
import java.lang.reflect.Method;
import java.lang.reflect.Modifier;
import java.nio.file.Files;
import java.nio.file.Path;
import java.util.Arrays;
import java.util.HashSet;
import java.util.List;
import java.util.Set;
import java.util.TreeSet;

/** The face of the document, and what can be seen of LANGUAGE.md in the class and its source. */
public final class LanguageTest {
    private static final Path SOURCE = Path.of("src/main/java/OrderBounds.java");
    private static final String IX = "IndexOutOfBoundsException";
    private static final String TURN = "IllegalStateException";
    private static final String RANGE = "IllegalArgumentException";
    private static final String MEANING = "UnsupportedOperationException";

    private static final Set<String> FACE = Set.of(
            "int column(int, int) " + RANGE + " " + MEANING,
            "int row(int, int) " + RANGE + " " + MEANING,
            "void factor(int, int, int) " + IX + " " + RANGE,
            "void right(int, int) " + IX + " " + RANGE,
            "int cut(int, int) " + IX + " " + MEANING,
            "int run(int) " + RANGE,
            "int told(int) " + IX + " " + TURN,
            "int value(int) " + IX + " " + TURN,
            "void multiplier(int, int) " + IX + " " + RANGE,
            "long certificate()",
            "int contradiction()",
            "int check(int)",
            "int follow(int, int) " + IX + " " + MEANING,
            "int chain(int) " + IX);

    private static final List<String> RULED_OUT = List.of(
            "import ", "package ", "catch", "try ", "finally", "->", "::", "assert", "synchronized", "Exact(",
            "System.out", "System.err", "nanoTime", "currentTimeMillis", "Random", "Thread", "hashCode",
            "toString", "getMessage", "lambda", "var ", "@");

    public static void main(String[] args) throws IOException {
        face();
        members();
        source();
        Due.end();
    }

    private static void face() {
        Due.isTrue("the class is public and final",
                Modifier.isPublic(OrderBounds.class.getModifiers()) && Modifier.isFinal(OrderBounds.class.getModifiers()));
        Set<String> seen = new TreeSet<>();
        for (Method m : OrderBounds.class.getDeclaredMethods()) {
            if (Modifier.isPublic(m.getModifiers())) {
                seen.add(textOf(m));
            } else {
                Due.isTrue(m + " is private", Modifier.isPrivate(m.getModifiers()));
            }
        }
        Due.isTrue("the face is " + seen, seen.equals(FACE));
        Constructor<?>[] made = OrderBounds.class.getDeclaredConstructors();
        Due.is("constructors", 1, made.length);
        Due.isTrue("the constructor is public and takes nothing",
                Modifier.isPublic(made[0].getModifiers()) && made[0].getParameterCount() == 0);
    }

    private static String textOf(Method m) {
        StringBuilder s = new StringBuilder(m.getReturnType() + " " + m.getName() + "(");
        s.append(String.join(", ", Arrays.stream(m.getParameterTypes()).map(Class::toString).toList())).append(")");
        for (Class<?> e : m.getExceptionTypes()) {
            s.append(" ").append(e.getSimpleName());
        }
        return s.toString();
    }

    private static void members() {
        Set<String> publicNames = new HashSet<>();
        for (Method m : OrderBounds.class.getMethods()) {
            publicNames.add(m.getName());
        }
        Class<?>[] inside = OrderBounds.class.getDeclaredClasses();
        Due.isTrue("at most twelve classes", inside.length < 12);
        for (Field f : OrderBounds.class.getDeclaredFields()) {
            Due.isTrue(f + " is private and final",
                    Modifier.isPrivate(f.getModifiers()) && Modifier.isFinal(f.getModifiers()));
        }
        for (Class<?> c : inside) {
            Due.isTrue(c + " is static and not public",
                    Modifier.isStatic(c.getModifiers()) && !Modifier.isPublic(c.getModifiers()));
            for (Method m : c.getDeclaredMethods()) {
                Due.isTrue(m + " bears no public name", !publicNames.contains(m.getName()));
                Due.isTrue(m + " takes at most seven", m.getParameterCount() <= 7);
            }
            for (Field f : c.getDeclaredFields()) {
                Due.isTrue(f + " is no static state", !Modifier.isStatic(f.getModifiers()));
            }
        }
    }

    private static void source() throws IOException {
        String text = Files.readString(SOURCE).replaceAll("(?s)/\\*.*?\\*/", "").replaceAll("//[^\n]*", "");
        for (String word : RULED_OUT) {
            Due.isTrue("the source has " + word, !text.contains(word));
        }
        Due.isTrue("only characters up to 255", text.chars().allMatch(c -> c <= 255));
    }
}
