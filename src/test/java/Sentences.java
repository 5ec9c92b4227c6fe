import java.io.IOException;
import java.lang.reflect.InvocationTargetException;
import java.lang.reflect.Method;
import java.nio.file.Files;
import java.nio.file.Path;
import java.util.ArrayList;
import java.util.Comparator;
import java.util.LinkedHashMap;
import java.util.List;
import java.util.Map;

/** The document by its parts, and who runs the tests that stand for sentences of it. */
final class Sentences {
    private static final Path DOC = Path.of(System.getenv().getOrDefault("SHARED", "../shared"), "DOC.md");

    private Sentences() {
    }

    /** All tests of a class, each with its sentence; the end has the exit code. */
    static void test(Class<?> tests) throws IOException, ReflectiveOperationException {
        Map<String, String> parts = parts();
        for (Method method : testsOf(tests)) {
            Sentence sentence = method.getAnnotation(Sentence.class);
            String part = parts.getOrDefault(sentence.in(), "");
            Check.due(method.getName() + ": " + sentence.in() + " says " + sentence.says(), part.contains(sentence.says()), true);
            int asked = Check.asked();
            int wrong = Check.wrong();
            run(method);
            Check.due(method.getName() + " asks something", Check.asked() > asked, true);
            if (Check.wrong() > wrong) {
                System.out.println("  in " + method.getName() + ": " + sentence.in() + ": " + sentence.says());
            }
        }
        Check.end();
    }

    private static void run(Method method) throws ReflectiveOperationException {
        method.setAccessible(true);
        try {
            method.invoke(null);
        } catch (InvocationTargetException e) {
            throw new IllegalStateException(method.getName() + " threw", e.getCause());
        }
    }

    static List<Method> testsOf(Class<?> tests) {
        List<Method> found = new ArrayList<>();
        for (Method method : tests.getDeclaredMethods()) {
            if (method.isAnnotationPresent(Sentence.class)) {
                found.add(method);
            }
        }
        found.sort(Comparator.comparing(Method::getName));
        return found;
    }

    /** Each part's text, all that is blank in it one blank, without the marks of the page. */
    static Map<String, String> parts() throws IOException {
        Map<String, StringBuilder> parts = new LinkedHashMap<>();
        String now = "";
        for (String line : Files.readString(DOC).replaceAll("(==== [2-5]\\.)", "\n$1\n").split("\n")) {
            if (line.startsWith("## ")) {
                now = line.substring(3).replaceAll(":.*", "");
            } else if (line.startsWith("==== ")) {
                now = line;
            } else if (!line.startsWith("```")) {
                parts.computeIfAbsent(now, key -> new StringBuilder()).append(line).append(' ');
            }
        }
        Map<String, String> texts = new LinkedHashMap<>();
        parts.forEach((name, text) -> texts.put(name, text.toString().replaceAll("\\s+", " ").trim()));
        return texts;
    }
}
