import java.nio.charset.StandardCharsets;

/** What the tests share: answers that are due, texts on the tape, and the end with its exit code. */
final class Check {
    /** A TENT with something of everything; most tests use it. */
    static final String FAIR = "tube 24 bore 8; far 12; wind 2 left;\n"
        + "ring 30 worth 1; ring 15 worth 3; ring 5 worth 5;\n"
        + "pea small size 5 weight 2 crooked 1; pea big size 8 weight 3;\n"
        + "pea wetty size 7 weight 2 wet; pea fat size 9 weight 1;\n"
        + "shooter ann puff 30 shake 2 lean 1 2; shooter bob puff 20 shake 0;\n"
        + "shooter cid puff 30 shake 6 lean 7 3 low;";

    private static int asked = 0;
    private static int wrong = 0;

    private Check() {
    }

    static void due(String call, long got, long want) {
        asked++;
        if (got != want) {
            wrong++;
            System.out.println(call + " answered " + got + ", due is " + want);
        }
    }

    static void due(String call, boolean got, boolean want) {
        due(call, got ? 1L : 0L, want ? 1L : 0L);
    }

    /** An answer that is NONE (or false) with this STATUS. */
    static void no(PeaTube x, String call, long got, int status) {
        due(call, got, PeaTube.NONE);
        due(call + " status", x.status(), status);
    }

    static void no(PeaTube x, String call, boolean got, int status) {
        due(call, got, false);
        due(call + " status", x.status(), status);
    }

    /** An answer with STATUS 0. */
    static void yes(PeaTube x, String call, long got, long want) {
        due(call, got, want);
        due(call + " status", x.status(), 0);
    }

    static void yes(PeaTube x, String call, boolean got) {
        due(call, got, true);
        due(call + " status", x.status(), 0);
    }

    static void fraction(PeaTube x, String call, long top, long bottom) {
        due(call + " top", x.top(), top);
        due(call + " bottom", x.bottom(), bottom);
        due(call + " status", x.status(), 0);
    }

    static void feed(PeaTube x, String text) {
        feed(x, text.getBytes(StandardCharsets.ISO_8859_1));
    }

    /** The tape must be empty; it has blanks behind the text up to a whole feed(). */
    static void feed(PeaTube x, byte[] text) {
        for (int at = 0; at < text.length; at += 20) {
            int[] five = new int[5];
            for (int i = 0; i < 20; i++) {
                int b = at + i < text.length ? text[at + i] & 255 : 32;
                five[i / 4] = five[i / 4] << 8 | b;
            }
            x.feed(five[0], five[1], five[2], five[3], five[4]);
        }
    }

    static int tent(PeaTube x, String text) {
        feed(x, text);
        return x.tent(text.length());
    }

    static int round(PeaTube x, String text) {
        feed(x, text);
        return x.round(text.length());
    }

    static PeaTube withTent(String text) {
        PeaTube x = new PeaTube();
        due("tent is taken: " + text, tent(x, text) >= 0, true);
        return x;
    }

    static void tentFault(String text, int kind, int place) {
        PeaTube x = new PeaTube();
        no(x, "tent " + text, tent(x, text), 10);
        due("fault(0) of " + text, x.fault(0), kind);
        due("fault(1) of " + text, x.fault(1), place);
    }

    static void roundFault(String text, int kind, int place) {
        PeaTube x = withTent(FAIR);
        no(x, "round " + text, round(x, text), 10);
        due("fault(0) of " + text, x.fault(0), kind);
        due("fault(1) of " + text, x.fault(1), place);
    }

    static int asked() {
        return asked;
    }

    static int wrong() {
        return wrong;
    }

    static void end() {
        System.out.println(wrong == 0 ? "all " + asked + " answers are as due"
            : wrong + " of " + asked + " answers are not as due");
        if (wrong != 0 || asked == 0) {
            System.exit(1);
        }
    }
}
