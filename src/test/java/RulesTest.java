import java.io.IOException;
import java.lang.reflect.Constructor;
import java.lang.reflect.Field;
import java.lang.reflect.Method;
import java.lang.reflect.Modifier;
import java.nio.file.Files;
import java.nio.file.Path;
import java.util.ArrayList;
import java.util.List;
import java.util.Set;
import java.util.TreeSet;
import java.util.regex.Matcher;
import java.util.regex.Pattern;

/** The rules of LANGUAGE.md that a text or the compiled class shows, and the face as the document has it. */
public final class RulesTest {
    private static final String SHARED = System.getenv().getOrDefault("SHARED", "../shared");

    private static String parameters(Class<?>[] types) {
        List<String> names = new ArrayList<>();
        for (Class<?> type : types) {
            names.add(type.getSimpleName());
        }
        return String.join(",", names);
    }

    /** The face as the document writes it: "int status()", with the types of the parameters alone. */
    private static Set<String> dueFace() throws IOException {
        Set<String> due = new TreeSet<>();
        Matcher m = Pattern.compile("public (\\w+ )?(\\w+)\\(([^)]*)\\);").matcher(Files.readString(Path.of(SHARED, "DOC.md")));
        while (m.find()) {
            String types = m.group(3).isEmpty() ? "" : m.group(3).replaceAll(" \\w+(, |$)", ",").replaceAll(",$", "");
            due.add((m.group(1) == null ? "" : m.group(1)) + m.group(2) + "(" + types + ")");
        }
        return due;
    }

    private static void face() throws IOException {
        Set<String> face = new TreeSet<>();
        Set<String> names = new TreeSet<>();
        for (Method m : PeaTube.class.getDeclaredMethods()) {
            if (Modifier.isPublic(m.getModifiers())) {
                face.add(m.getReturnType().getSimpleName() + " " + m.getName() + "(" + parameters(m.getParameterTypes()) + ")");
                names.add(m.getName());
            }
        }
        for (Constructor<?> c : PeaTube.class.getDeclaredConstructors()) {
            face.add("PeaTube(" + parameters(c.getParameterTypes()) + ")");
        }
        Check.due("the face is the document's: " + face, face.equals(dueFace()), true);
        Check.due("calls and the constructor", face.size(), 47);
        for (Method m : PeaTube.class.getDeclaredMethods()) {
            int how = m.getModifiers();
            Check.due(m.getName() + " is public or private", Modifier.isPublic(how) || Modifier.isPrivate(how), true);
            Check.due(m.getName() + " private bears no public name", Modifier.isPrivate(how) && names.contains(m.getName()), false);
        }
        for (Field f : PeaTube.class.getDeclaredFields()) {
            Check.due(f.getName() + " is private, but NONE", Modifier.isPrivate(f.getModifiers()), !f.getName().equals("NONE"));
        }
    }

    private static void classes() {
        List<Class<?>> all = new ArrayList<>(List.of(PeaTube.class.getDeclaredClasses()));
        Check.due("at most twelve classes", all.size() + 1 <= 12, true);
        for (Class<?> c : all) {
            Check.due(c.getName() + " is static", Modifier.isStatic(c.getModifiers()), true);
            Check.due(c.getName() + " has none inside", c.getDeclaredClasses().length, 0);
        }
        all.add(PeaTube.class);
        for (Class<?> c : all) {
            int fields = 0;
            for (Field f : c.getDeclaredFields()) {
                boolean fixed = Modifier.isStatic(f.getModifiers());
                fields += fixed ? 0 : 1;
                Check.due(c.getName() + "." + f.getName() + " static and final", !fixed || Modifier.isFinal(f.getModifiers()), true);
                boolean plain = f.getType().isPrimitive() || f.getType() == String.class;
                Check.due(c.getName() + "." + f.getName() + " static and plain", !fixed || plain, true);
            }
            Check.due(c.getName() + " has at most 20 fields", fields <= 20, true);
            for (Method m : c.getDeclaredMethods()) {
                boolean few = m.getParameterCount() <= 7 || m.getName().equals("shoot");
                Check.due(m.getName() + " has at most 7 parameters", few, true);
            }
        }
    }

    private static void words() throws IOException {
        String source = Files.readString(Path.of("src/main/java/PeaTube.java"));
        String code = source.replaceAll("(?s)/\\*.*?\\*/", "").replaceAll("//[^\n]*", "").replaceAll("\"[^\"\n]*\"", "\"\"");
        String[] never = {"\\bthrow\\b", "\\btry\\b", "\\bcatch\\b", "\\bsynchronized\\b", "\\bassert\\b", "->", "::",
            "Exact\\b", "\\bprotected\\b", "\\bpackage\\b", "\\bdouble\\b", "\\bfloat\\b", "@", "\\bSystem\\.(?!arraycopy)",
            "\\bMath\\.(?!min|max|abs)", "\\bArrays\\.(?!fill|copyOf)", "\\bimport (?!java\\.util\\.Arrays;)", "\"\" \\+", "\\+ \"\"",
            "\\bstatic \\{", "\\bThread\\b", "\\bRandom\\b", "\\byield\\b", "\\brecord\\b", "\\benum\\b", "\\bvar\\b"};
        for (String word : never) {
            Check.due("no " + word, Pattern.compile(word).matcher(code).find(), false);
        }
        Check.due("no package line", code.contains("package "), false);
        for (int i = 0; i < source.length(); i++) {
            if (source.charAt(i) > 127 || source.charAt(i) < 10) {
                Check.due("a sign beyond 127 at " + i, 0, 1);
            }
        }
    }

    private static void lengths() throws IOException {
        int begin = -1;
        String head = "";
        List<String> lines = Files.readAllLines(Path.of("src/main/java/PeaTube.java"));
        for (int i = 0; i < lines.size(); i++) {
            String line = lines.get(i);
            if (line.matches("( {4}| {8})(?!private static final class|static final class)\\w[^=;]*\\) \\{")) {
                begin = i;
                head = line;
            } else if (line.matches("( {4}| {8})\\}") && begin >= 0) {
                Check.due(head.trim() + " has at most 60 lines", i - begin + 1 <= 60, true);
                begin = -1;
            }
        }
    }

    public static void main(String[] args) throws IOException {
        face();
        classes();
        words();
        lengths();
        Check.end();
    }
}
