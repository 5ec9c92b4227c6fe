import java.io.IOException;
import java.lang.reflect.Method;
import java.nio.file.Files;
import java.nio.file.Path;
import java.util.ArrayList;
import java.util.BitSet;
import java.util.HashSet;
import java.util.List;
import java.util.Map;
import java.util.Set;
import java.util.stream.Stream;

/** All that the Terms and the promises say is the sentence of some test, but for the few names of things told here. */
public final class SentencesTest {
    /** What follows them has its tests; they themselves say nothing that a test could ask. */
    private static final Set<String> NAMES_ALONE = Set.of("POINTS", "SHOTS by hand");
    private static final String SIGNATURE = "`[A-Za-z]+( [a-zA-Z]+)?\\([^)]*\\)`";
    private static final String HEADING = "Ahead of the calls [^.]* the interface says:( ----( [A-Za-z]+)*)?";

    private static List<Method> tests() throws IOException, ClassNotFoundException {
        List<Method> tests = new ArrayList<>();
        try (Stream<Path> files = Files.list(Path.of("src/test/java"))) {
            for (Path file : files.sorted().toList()) {
                String name = file.getFileName().toString();
                if (name.endsWith("Test.java")) {
                    tests.addAll(Sentences.testsOf(Class.forName(name.replace(".java", ""))));
                }
            }
        }
        return tests;
    }

    private static BitSet quoted(String part, String text, List<Method> tests) {
        BitSet quoted = new BitSet();
        for (Method test : tests) {
            Sentence sentence = test.getAnnotation(Sentence.class);
            int at = sentence.in().equals(part) ? text.indexOf(sentence.says()) : -1;
            if (at >= 0) {
                quoted.set(at, at + sentence.says().length());
            }
        }
        return quoted;
    }

    /** What no test quotes, without signs at its ends, without signatures and headings. */
    private static List<String> unquoted(String text, BitSet quoted) {
        List<String> found = new ArrayList<>();
        for (int begin = quoted.nextClearBit(0); begin < text.length();) {
            int next = quoted.nextSetBit(begin);
            int end = next < 0 ? text.length() : next;
            String rest = text.substring(begin, end).replaceAll(SIGNATURE, "").replaceAll(HEADING, "");
            rest = rest.replaceAll("^[ .;:,]+|[ .;:,]+$", "");
            if (rest.matches("(?s).*[A-Za-z0-9].*") && !rest.matches("and|or")) {
                found.add(rest);
            }
            begin = quoted.nextClearBit(end);
        }
        return found;
    }

    public static void main(String[] args) throws IOException, ClassNotFoundException {
        List<Method> tests = tests();
        Set<String> names = new HashSet<>();
        for (Method test : tests) {
            Check.due("a name of its own: " + test, names.add(test.getDeclaringClass().getName() + "." + test.getName()), true);
        }
        for (Map.Entry<String, String> part : Sentences.parts().entrySet()) {
            if (part.getKey().matches("Terms|==== [2-5]\\.|Promise [0-9]+")) {
                List<String> left = unquoted(part.getValue(), quoted(part.getKey(), part.getValue(), tests));
                left.removeAll(NAMES_ALONE);
                Check.due(part.getKey() + ": without a test is " + left, left.size(), 0);
            }
        }
        System.out.println(tests.size() + " tests have their sentence");
        Check.due("parts of the document", Sentences.parts().keySet().stream().filter(p -> p.startsWith("Promise ")).count(), 47);
        Check.end();
    }
}
