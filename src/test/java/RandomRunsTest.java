import java.lang.reflect.Method;
import java.util.HashMap;
import java.util.Map;
import java.util.Random;
import java.util.TreeMap;

/** All promises at once: runs of random calls, good ones and wrong ones, against the model. */
public final class RandomRunsTest {
    /**
     * A letter an argument: t TRAY, s sort, l length, i place, v any number, S SHOOTER, P PEA, R RING,
     * N SHOOTER or NONE, Q PEA or NONE, F puff, G spit, B beat, A aim, U turn, H hand, D board's place,
     * W wall's place, p points, n SHOTS, k of 0 to 3, c cost, w what 0 to 9, o what 0 to 2, e seed, m seeds.
     */
    private static final String[] CALLS = {
        "tray tsl", "write tiv", "write tiv", "read ti", "read ti", "pour titil",
        "many w", "ring Rw", "pea Pw", "shooter Sw", "pace PFG", "flight PFGw", "becomes PFG",
        "strikes SPFAAUo", "points DD", "ringAt DD", "hand SB", "odds SPFBAAp", "mean SPFBAA",
        "bestAim SPFBo", "bestPuff SPBAA", "bestBeat SPFAA", "longest SPFBAA", "bestPea SFB",
        "series SPFAAnn", "wipeEvery SPFnc", "turns SPSPko", "knock tPk", "knock tPk", "hole iw", "lean NQo",
        "whose WW", "worst o", "sieve w", "same", "shoot SPFAAUHH", "shoot SPFAAUHH", "shoot SPFAAUHH",
        "shoot SPFAAUHH", "shoot SPFAAUHH", "shoot SPFAAUHH", "wipe", "wipe", "play e", "play e", "played w",
        "wins Sem", "mark", "back", "fault o", "feed vvvvv", "tent l", "round l"};
    private static final String[] NAMES = {"a", "ann", "bob", "cid", "dora", "peapod", "eightlet", "ninelette", "tub",
        "tubes", "x", "yy", "zzz", "q", "spitt", "pea", "low"};

    private static final String[] PEAS = {"a", "ann", "bob", "cid", "dora", "peapod", "eightlet", "ii", "k"};

    private static final Map<String, Method> REAL = new HashMap<>();
    private static final Map<String, Method> MODEL = new HashMap<>();
    private static final Map<Integer, Integer> SEEN = new TreeMap<>();
    private static Random random;
    private static int peas;
    private static int shooters;

    private static int draw(int from, int to) {
        return from + random.nextInt(to - from + 1);
    }

    private static int often(int from, int to) {
        int odd = random.nextInt(100);
        if (odd == 0) {
            int[] far = {Integer.MIN_VALUE, Integer.MAX_VALUE, -2147483647, 65536, -1, 1000000000};
            return far[random.nextInt(far.length)];
        }
        if (odd == 1) {
            return random.nextBoolean() ? from - 1 : to + 1;
        }
        if (odd < 10) {
            return random.nextBoolean() ? from : to;
        }
        return draw(from, Math.max(from, to));
    }

    private static int small(int most) {
        return random.nextInt(3) > 0 ? often(-12, 12) : often(-most, most);
    }

    private static long argument(char kind) {
        switch (kind) {
            case 't': return random.nextInt(3) > 0 ? 0 : often(0, 3);
            case 's': return often(0, 3);
            case 'l': return random.nextInt(4) > 0 ? often(2, 12) : often(0, 60);
            case 'i': return random.nextInt(4) > 0 ? often(0, 5) : often(0, 60);
            case 'v': return random.nextInt(5) > 0 ? random.nextInt(4) : random.nextLong();
            case 'S': return often(0, shooters - 1);
            case 'P': return often(0, peas - 1);
            case 'R': return often(0, 5);
            case 'N': return random.nextInt(3) == 0 ? -1 : often(0, shooters - 1);
            case 'Q': return random.nextInt(3) == 0 ? -1 : often(0, peas - 1);
            case 'F': return random.nextInt(3) > 0 ? often(15, 26) : often(1, 40);
            case 'G': return random.nextInt(4) > 0 ? often(0, 3) : often(0, 20);
            case 'B': return often(0, 3);
            case 'A': return random.nextInt(4) == 0 ? 0 : small(60);
            case 'U': return often(-1, 1);
            case 'H': return often(-6, 6);
            case 'D': return random.nextInt(2) > 0 ? small(60) : often(-999, 999);
            case 'W': return small(99);
            case 'p': return random.nextInt(3) > 0 ? often(1, 6) : often(1, 20);
            case 'n': return often(1, 30);
            case 'k': return often(random.nextInt(4) > 0 ? 1 : 0, random.nextInt(4) > 0 ? 3 : 5);
            case 'c': return often(0, 99);
            case 'w': return random.nextInt(3) > 0 ? often(0, 4) : often(0, 9);
            case 'o': return often(0, 2);
            case 'e': return often(0, 9999);
            case 'm': return often(1, 20);
            default: throw new IllegalStateException("no such kind " + kind);
        }
    }

    private static String number(int from, int to) {
        return String.valueOf(random.nextInt(150) == 0 ? draw(0, 12345) : draw(from, to));
    }

    private static String name() {
        return NAMES[random.nextInt(random.nextInt(5) > 0 ? 5 : NAMES.length)];
    }

    private static String tentText() {
        StringBuilder s = new StringBuilder();
        if (random.nextInt(3) > 0) {
            s.append("tube ").append(number(12, 48)).append(" bore ").append(number(3, 12)).append(";");
        }
        if (random.nextInt(3) > 0) {
            s.append("far ").append(number(4, 20)).append(" ;");
        }
        if (random.nextInt(3) > 0) {
            s.append("wind ").append(number(0, 9)).append(random.nextBoolean() ? " left" : "").append(";\n");
        }
        if (random.nextInt(40) == 0) {
            s.append(new String[] {"far 7;", "wind 0;", "tube 20 bore 7;"}[random.nextInt(3)]);
        }
        int reach = 61;
        int worth = 0;
        int room = random.nextBoolean() ? 6 : 15;
        for (int i = random.nextInt(30) == 0 ? 7 : draw(0, 6); i > 0 && reach > 1 && worth < 20; i--) {
            reach = draw(Math.max(1, reach - room), reach - 1);
            worth = draw(worth + 1, Math.min(20, worth + 4));
            s.append("ring ").append(number(reach, reach)).append("worth ").append(number(worth, worth)).append(";");
        }
        int next = 0;
        for (int i = random.nextInt(30) == 0 ? 9 : draw(0, 8); i > 0; i--) {
            s.append("pea ").append(random.nextInt(40) == 0 ? name() : PEAS[next++]).append(" size ");
            s.append(number(random.nextBoolean() ? 5 : 1, 9)).append(" weight");
            s.append(number(1, random.nextInt(3) > 0 ? 4 : 20));
            s.append(random.nextBoolean() ? " crooked " + number(0, 4) : "").append(random.nextInt(4) == 0 ? " wet" : "").append(";");
        }
        for (int i = random.nextInt(30) == 0 ? 7 : draw(0, 6); i > 0; i--) {
            s.append("shooter ").append(random.nextInt(40) == 0 ? name() : "s" + "abcdefg".charAt(i - 1)).append(" puff ");
            s.append(number(random.nextInt(4) > 0 ? 25 : 1, 40)).append(" shake ").append(number(0, 6));
            if (random.nextBoolean()) {
                s.append(" lean ").append(number(0, 9)).append(" ").append(number(0, 9)).append(random.nextBoolean() ? " low" : "");
            }
            s.append(";");
        }
        return spoil(s, 900);
    }

    private static String peaName() {
        return random.nextInt(40) == 0 ? name() : PEAS[random.nextInt(Math.max(1, peas))];
    }

    private static String shooterName() {
        return random.nextInt(40) == 0 ? name() : "s" + "abcdef".charAt(random.nextInt(Math.max(1, shooters)));
    }

    private static void steps(StringBuilder s, int most, int depth) {
        for (int i = draw(0, most); i > 0; i--) {
            switch (random.nextInt(14)) {
                case 0 -> s.append("load ").append(peaName()).append(";");
                case 1 -> s.append("aim ").append(number(0, 12)).append(" ").append(number(0, 60))
                    .append(random.nextBoolean() ? " left" : "").append(random.nextBoolean() ? " low" : "").append(";");
                case 2 -> s.append("puff ").append(number(1, 40)).append(";");
                case 3 -> s.append("beat ").append(number(0, 3)).append(";");
                case 4, 5, 6, 7 -> s.append("shoot ").append(shooterName()).append(";");
                case 8 -> s.append("wipe;");
                case 9 -> s.append("next;");
                case 10 -> {
                    String[] tests = {"score " + shooterName(), "holes", "spit"};
                    s.append("when ").append(tests[random.nextInt(3)]).append("<>=".charAt(random.nextInt(3)));
                    s.append(number(0, 9)).append(";");
                    steps(s, depth > 2 ? 1 : 4, depth + 1);
                    s.append("end;");
                }
                case 11, 12 -> {
                    s.append("loop ").append(random.nextInt(3) == 0 ? number(1, 99) : number(1, 6)).append(";");
                    steps(s, depth > 2 ? 1 : 4, depth + 1);
                    s.append("end;");
                }
                default -> s.append(random.nextInt(8) == 0 ? "stop;" : "wipe;");
            }
        }
    }

    private static String roundText() {
        StringBuilder s = new StringBuilder();
        steps(s, random.nextInt(4) == 0 ? 30 : 9, 0);
        if (s.length() > 300 && random.nextInt(4) > 0) {
            s.setLength(0);
            steps(s, 5, 0);
        }
        return spoil(s, 320);
    }

    private static String spoil(StringBuilder s, int most) {
        if (s.length() > most) {
            s.setLength(most);
        }
        if (random.nextInt(4) == 0 && s.length() > 0) {
            for (int i = draw(1, 2); i > 0; i--) {
                int at = random.nextInt(s.length());
                char[] bad = {'z', ';', ' ', '0', '9', '<', 'A', '\t', (char) 200, 'a', '='};
                if (random.nextBoolean()) {
                    s.setCharAt(at, bad[random.nextInt(bad.length)]);
                } else {
                    s.deleteCharAt(at);
                }
                if (s.length() == 0) {
                    return "";
                }
            }
        }
        return s.toString();
    }

    private static String ask(PeaTube x, Model m, String name, long[] args) throws ReflectiveOperationException {
        Method real = REAL.get(name);
        Object[] boxed = new Object[args.length];
        for (int i = 0; i < args.length; i++) {
            boxed[i] = real.getParameterTypes()[i] == long.class ? (Object) args[i] : (Object) (int) args[i];
        }
        Object got = real.invoke(x, boxed);
        Object want = MODEL.get(name).invoke(m, boxed);
        String call = name + java.util.Arrays.toString(args);
        Check.due(call, got.equals(want), true);
        Check.due(call + " status", x.status(), m.status());
        Check.due(call + " top", x.top(), m.top());
        Check.due(call + " bottom", x.bottom(), m.bottom());
        Check.due(call + " fault", x.fault(0), m.fault(0));
        Check.due(call + " place", x.fault(1), m.fault(1));
        if (!got.equals(want)) {
            System.out.println("  " + call + " answered " + got + ", due is " + want);
        }
        SEEN.merge(x.status(), 1, Integer::sum);
        return String.valueOf(want);
    }

    private static void text(PeaTube x, Model m, String name, String text) throws ReflectiveOperationException {
        for (int at = 0; at < text.length(); at += 20) {
            long[] five = new long[5];
            for (int i = 0; i < 20; i++) {
                int b = at + i < text.length() ? text.charAt(at + i) : 32;
                five[i / 4] = (int) (five[i / 4] << 8 | b);
            }
            ask(x, m, "feed", five);
        }
        ask(x, m, name, new long[] {text.length()});
        peas = m.many(5);
        shooters = m.many(6);
        x.many(6);
    }

    private static void run(int calls) throws ReflectiveOperationException {
        PeaTube x = new PeaTube();
        Model m = new Model();
        peas = 0;
        shooters = 0;
        for (int i = 0; i < calls; i++) {
            int what = random.nextInt(100);
            if (i == 0 || what < 2 || what < 20 && shooters == 0) {
                text(x, m, "tent", tentText());
            } else if (what < 6) {
                text(x, m, "round", roundText());
            } else {
                String[] call = CALLS[random.nextInt(CALLS.length)].split(" ");
                boolean slow = call[0].equals("bestAim") && random.nextInt(8) > 0;
                boolean spoilsTape = call[0].equals("feed") && random.nextInt(30) > 0;
                if (slow || spoilsTape) {
                    continue;
                }
                long[] args = new long[call.length > 1 ? call[1].length() : 0];
                for (int a = 0; a < args.length; a++) {
                    args[a] = argument(call[1].charAt(a));
                }
                ask(x, m, call[0], args);
                peas = m.many(5);
                shooters = m.many(6);
                x.many(6);
            }
        }
    }

    public static void main(String[] args) throws ReflectiveOperationException {
        for (Method method : PeaTube.class.getDeclaredMethods()) {
            REAL.put(method.getName(), method);
        }
        for (Method method : Model.class.getDeclaredMethods()) {
            if (java.lang.reflect.Modifier.isPublic(method.getModifiers())) {
                method.setAccessible(true);
                MODEL.put(method.getName(), method);
            }
        }
        int runs = args.length > 0 ? Integer.parseInt(args[0]) : 300;
        int from = args.length > 1 ? Integer.parseInt(args[1]) : 0;
        for (int run = from; run < from + runs; run++) {
            random = new Random(run);
            run(400);
        }
        System.out.println("how often each status was: " + SEEN);
        Check.end();
    }
}
