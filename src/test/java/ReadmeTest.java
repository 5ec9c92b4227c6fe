import java.io.IOException;
import java.nio.file.Files;
import java.nio.file.Path;
import java.util.LinkedHashMap;
import java.util.List;
import java.util.Map;
import java.util.Set;
import java.util.TreeSet;
import java.util.regex.Matcher;
import java.util.regex.Pattern;

/** README.md says how to use the class: its example is this file's, word for word, its answers are due, it names each call. */
public final class ReadmeTest {
    private static final Path HERE = Path.of("src/test/java/ReadmeTest.java");
    private static final Pattern TOLD = Pattern.compile("(?m)^(int|long|boolean|String) (\\w+) = .*; // (\\S+?)(:| |$)");

    // README: feeding
    static int put(PeaTube tube, String text) {
        for (int at = 0; at < text.length(); at += 20) {
            int[] five = new int[5];
            for (int i = 0; i < 20; i++) {
                int b = at + i < text.length() ? text.charAt(at + i) : ' ';
                five[i / 4] = five[i / 4] << 8 | b;
            }
            tube.feed(five[0], five[1], five[2], five[3], five[4]);
        }
        return text.length();
    }
    // README: end

    private static Map<String, Object> example() {
        // README: example
        PeaTube tube = new PeaTube();
        int peas = tube.tent(put(tube, "tube 24 bore 8; far 12; wind 2 left;"
            + "ring 30 worth 1; ring 15 worth 3; ring 5 worth 5;"
            + "pea big size 8 weight 3; pea fat size 9 weight 1;"
            + "shooter ann puff 30 shake 2 lean 1 2; shooter bob puff 20 shake 0;")); // 2
        int pace = tube.pace(0, 30, 0);                      // 240: PEA 0 with PUFF 30, SPIT 0
        int points = tube.shoot(0, 0, 30, 0, 0, 0, 0, 0);    // 5: ann aims at the middle, the HAND still
        int strikesX = tube.hole(0, 0);                      // -2: the wind blew it to the left

        boolean told = tube.mean(0, 0, 30, 0, 0, 0);         // true: the FRACTION is told
        String mean = tube.top() + "/" + tube.bottom();      // 23/5

        int none = tube.pace(1, 30, 0);                      // -1: NONE
        int status = tube.status();                          // 9: it can't be, the PEA is larger than the BORE

        int noTent = tube.tent(put(tube, "far 3;"));         // -1: the TENT stays as it was
        int fault = tube.fault(0);                           // 4: a NUMBER that can't be
        int place = tube.fault(1);                           // 4: at its first digit

        int mark = tube.mark();                              // 1
        int steps = tube.round(put(tube, "loop 3; shoot ann; when spit > 2; wipe; end; end; shoot bob;")); // 5
        int done = tube.play(7);                             // 9: loop, three times shoot and when, one wipe, shoot
        int flew = tube.played(1);                           // 4
        int left = tube.back();                              // 0: SPIT, HOLES, scores are as at the MARK
        // README: end
        Map<String, Object> answers = new LinkedHashMap<>();
        answers.put("peas", peas);
        answers.put("pace", pace);
        answers.put("points", points);
        answers.put("strikesX", strikesX);
        answers.put("told", told);
        answers.put("mean", mean);
        answers.put("none", none);
        answers.put("status", status);
        answers.put("noTent", noTent);
        answers.put("fault", fault);
        answers.put("place", place);
        answers.put("mark", mark);
        answers.put("steps", steps);
        answers.put("done", done);
        answers.put("flew", flew);
        answers.put("left", left);
        return answers;
    }

    /** The lines of this file from one mark to the next, as README.md has them. */
    private static String part(String name) throws IOException {
        StringBuilder part = new StringBuilder();
        boolean inside = false;
        int margin = 0;
        for (String line : Files.readAllLines(HERE)) {
            if (line.trim().equals("// README: " + name)) {
                inside = true;
                margin = line.indexOf('/');
            } else if (inside && line.trim().equals("// README: end")) {
                return part.toString();
            } else if (inside) {
                part.append(line.isEmpty() ? "" : line.substring(margin)).append('\n');
            }
        }
        return "no part " + name;
    }

    private static void answers(String example) {
        Map<String, Object> answers = example();
        Set<String> told = new TreeSet<>();
        // a call over some lines is told behind its last one
        Matcher m = TOLD.matcher(example.replaceAll("\n    +", " ").replaceAll(" +//", " //"));
        while (m.find()) {
            told.add(m.group(2));
            String got = String.valueOf(answers.get(m.group(2)));
            Check.due("README: " + m.group(2) + " is " + got + ", told " + m.group(3), got.equals(m.group(3)), true);
        }
        Check.due("README tells each answer, but " + answers.keySet(), told.equals(answers.keySet()), true);
    }

    /** Each call of the face stands in the table, with its parameters as the document names them. */
    private static void calls(String readme) throws IOException {
        Path doc = Path.of(System.getenv().getOrDefault("SHARED", "../shared"), "DOC.md");
        Matcher m = Pattern.compile("public \\w+ (\\w+)\\(([^)]*)\\);").matcher(Files.readString(doc));
        int found = 0;
        while (m.find()) {
            found++;
            String call = "`" + m.group(1) + "(" + m.group(2).replaceAll("(int|long) ", "") + ")`";
            Check.due("README tells of " + call, readme.contains(call), true);
        }
        Check.due("calls of the face", found, 46);
    }

    public static void main(String[] args) throws IOException {
        String readme = Files.readString(Path.of("README.md"));
        for (String name : List.of("feeding", "example")) {
            Check.due("README has the " + name, readme.contains("```java\n" + part(name) + "```\n"), true);
        }
        answers(part("example"));
        calls(readme);
        Check.end();
    }
}
