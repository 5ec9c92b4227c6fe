import java.math.BigInteger;
import java.util.ArrayList;
import java.util.Arrays;
import java.util.HashMap;
import java.util.HashSet;
import java.util.List;
import java.util.Map;
import java.util.Set;
import java.util.TreeMap;
import java.util.function.LongSupplier;

/**
 * A second PeaTube, written slowly and plainly from the document with all that Java has, so that
 * answers can be compared. Its methods bear the names of the face.
 */
final class Model {
    static final Set<String> WORDS = new HashSet<>(Arrays.asList(("tube bore far wind left ring worth pea size weight "
        + "crooked wet shooter puff shake lean low load aim beat shoot wipe next when score holes spit loop end stop")
        .split(" ")));

    record Ring(int reach, int worth) { }

    record Pea(String name, int size, int weight, int crooked, boolean wet) { }

    record Shooter(String name, int puff, int shake, int right, int up) { }

    record Hole(int x, int y, int shooter, int pea) { }

    record Token(char kind, String text, int place) { }

    /** A STEP: its WORD, its numbers, a sign in a TEST, and the STEPS within. */
    record Step(String word, int a, int b, char sign, List<Step> within) { }

    record Fraction(BigInteger top, BigInteger bottom) {
        static Fraction of(long top, long bottom) {
            return new Fraction(BigInteger.valueOf(top), BigInteger.valueOf(bottom)).reduced();
        }

        Fraction reduced() {
            BigInteger g = top.gcd(bottom);
            return new Fraction(top.divide(g), bottom.divide(g));
        }

        Fraction plus(Fraction o) {
            return new Fraction(top.multiply(o.bottom).add(o.top.multiply(bottom)), bottom.multiply(o.bottom)).reduced();
        }

        Fraction minus(Fraction o) {
            return plus(new Fraction(o.top.negate(), o.bottom));
        }

        Fraction times(Fraction o) {
            return new Fraction(top.multiply(o.top), bottom.multiply(o.bottom)).reduced();
        }

        int compareTo(Fraction o) {
            return top.multiply(o.bottom).compareTo(o.top.multiply(bottom));
        }
    }

    static final class No extends RuntimeException {
        final int status;

        No(int status) {
            super("status " + status, null, false, false);
            this.status = status;
        }
    }

    static final class Fault extends RuntimeException {
        final int kind;
        final int place;

        Fault(int kind, int place) {
            super("fault " + kind, null, false, false);
            this.kind = kind;
            this.place = place;
        }
    }

    static final class Over extends RuntimeException {
        Over() {
            super("over", null, false, false);
        }
    }

    static final class Stand {
        int inches = 24;
        int bore = 8;
        int far = 12;
        int wind = 0;
        List<Ring> rings = new ArrayList<>();
        List<Pea> peas = new ArrayList<>();
        List<Shooter> shooters = new ArrayList<>();
        int spit = 0;
        List<Hole> holes = new ArrayList<>();
        Map<Integer, Integer> scores = new HashMap<>();
        List<Step> round = null;

        Stand copy() {
            Stand s = new Stand();
            s.inches = inches;
            s.bore = bore;
            s.far = far;
            s.wind = wind;
            s.rings = new ArrayList<>(rings);
            s.peas = new ArrayList<>(peas);
            s.shooters = new ArrayList<>(shooters);
            s.spit = spit;
            s.holes = new ArrayList<>(holes);
            s.scores = new HashMap<>(scores);
            s.round = round;
            return s;
        }
    }

    private int status = 0;
    private Fraction told = Fraction.of(0, 1);
    private final long[][] trays = new long[4][];
    private final int[] sorts = new int[4];
    private String tape = "";
    private int faultKind = -1;
    private int faultPlace = -1;
    private Stand now = new Stand();
    private final List<Stand> marks = new ArrayList<>();
    private int[] played = null;

    private long call(LongSupplier body) {
        try {
            long answer = body.getAsLong();
            status = 0;
            return answer;
        } catch (No no) {
            status = no.status;
            return -1;
        }
    }

    private boolean test(LongSupplier body) {
        return call(body) != -1;
    }

    private static void need(boolean holds, int status) {
        if (!holds) {
            throw new No(status);
        }
    }

    private static boolean in(long v, long low, long high) {
        return low <= v && v <= high;
    }

    public int status() {
        return status;
    }

    public long top() {
        return told.top().longValueExact();
    }

    public long bottom() {
        return told.bottom().longValueExact();
    }

    public boolean tray(int tray, int sort, int many) {
        return test(() -> {
            need(in(tray, 0, 3) && in(sort, 0, 3), 1);
            need(many <= 60, 5);
            need(many >= 0, 6);
            trays[tray] = new long[many];
            sorts[tray] = sort;
            return 1;
        });
    }

    public boolean write(int tray, int place, long v) {
        return test(() -> {
            place(tray, place);
            int away = 64 - (8 << sorts[tray]);
            trays[tray][place] = v << away >> away;
            return 1;
        });
    }

    private void place(int tray, int place) {
        need(in(tray, 0, 3), 1);
        need(trays[tray] != null, 3);
        need(in(place, 0, trays[tray].length - 1), 4);
    }

    public long read(int tray, int place) {
        return call(() -> {
            place(tray, place);
            return trays[tray][place];
        });
    }

    public boolean pour(int tray, int i, int to, int j, int many) {
        return test(() -> {
            need(in(tray, 0, 3) && in(to, 0, 3), 1);
            need(trays[tray] != null && trays[to] != null, 3);
            need(sorts[tray] == sorts[to], 11);
            need(many >= 0, 6);
            need(i >= 0 && j >= 0 && (long) i + many <= trays[tray].length && (long) j + many <= trays[to].length, 4);
            long[] was = trays[tray].clone();
            for (int k = 0; k < many; k++) {
                trays[to][j + k] = was[i + k];
            }
            return 1;
        });
    }

    public int feed(int a, int b, int c, int d, int e) {
        if (tape.length() > 880) {
            return -1;
        }
        StringBuilder s = new StringBuilder(tape);
        for (int v : new int[] {a, b, c, d, e}) {
            s.append((char) (v >>> 24)).append((char) (v >>> 16 & 255)).append((char) (v >>> 8 & 255)).append((char) (v & 255));
        }
        tape = s.toString();
        return tape.length();
    }

    private List<Token> tokens;
    private int at;

    private static List<Token> scan(String text) {
        List<Token> all = new ArrayList<>();
        int i = 0;
        while (i < text.length()) {
            char c = text.charAt(i);
            int from = i;
            if (c == 10 || c == 32) {
                i++;
                continue;
            }
            if (c >= 'a' && c <= 'z') {
                while (i < text.length() && text.charAt(i) >= 'a' && text.charAt(i) <= 'z') {
                    i++;
                }
                all.add(new Token('w', text.substring(from, i), from));
            } else if (c >= '0' && c <= '9') {
                while (i < text.length() && text.charAt(i) >= '0' && text.charAt(i) <= '9') {
                    i++;
                }
                all.add(new Token(i - from > 4 ? '?' : 'n', text.substring(from, i), from));
            } else {
                i++;
                all.add(new Token(";<>=".indexOf(c) >= 0 ? 's' : '?', text.substring(from, i), from));
            }
        }
        all.add(new Token('e', "", text.length()));
        return all;
    }

    private Token here() {
        return tokens.get(at);
    }

    private Fault faultHere(int kind) {
        return new Fault(here().kind() == '?' ? 1 : kind, here().place());
    }

    private boolean is(String text) {
        return (here().kind() == 'w' || here().kind() == 's') && here().text().equals(text);
    }

    private boolean perhaps(String text) {
        if (is(text)) {
            at++;
            return true;
        }
        return false;
    }

    private void must(String text) {
        if (!perhaps(text)) {
            throw faultHere(2);
        }
    }

    private int number(int low, int high) {
        if (here().kind() != 'n') {
            throw faultHere(2);
        }
        int v = Integer.parseInt(here().text());
        if (v < low || v > high) {
            throw faultHere(4);
        }
        at++;
        return v;
    }

    private String name() {
        if (here().kind() != 'w' || WORDS.contains(here().text()) || here().text().length() > 8) {
            throw faultHere(2);
        }
        return here().text();
    }

    public int tent(int n) {
        return (int) call(() -> {
            need(in(n, 0, tape.length()), 5);
            Stand s = new Stand();
            text(n, () -> parseTent(s));
            now = s;
            return s.peas.size();
        });
    }

    public int round(int n) {
        return (int) call(() -> {
            need(in(n, 0, Math.min(300, tape.length())), 5);
            List<Step> steps = new ArrayList<>();
            int[] count = {0};
            text(n, () -> {
                parseSteps(steps, count, 0);
                if (here().kind() != 'e') {
                    throw faultHere(2);
                }
            });
            now.round = steps;
            return count[0];
        });
    }

    private void text(int n, Runnable parse) {
        tokens = scan(tape.substring(0, n));
        at = 0;
        tape = "";
        try {
            parse.run();
            faultKind = 0;
            faultPlace = -1;
        } catch (Fault f) {
            faultKind = f.kind;
            faultPlace = f.place;
            throw new No(10);
        }
    }

    private void parseTent(Stand s) {
        Set<String> told = new HashSet<>();
        Set<String> names = new HashSet<>();
        while (here().kind() != 'e') {
            String word = here().kind() == 'w' ? here().text() : "";
            switch (word) {
                case "tube", "far", "wind" -> {
                    if (!told.add(word)) {
                        throw faultHere(5);
                    }
                    at++;
                    if (word.equals("tube")) {
                        s.inches = number(12, 48);
                        must("bore");
                        s.bore = number(3, 12);
                    } else if (word.equals("far")) {
                        s.far = number(4, 20);
                    } else {
                        s.wind = number(0, 9);
                        s.wind = perhaps("left") ? -s.wind : s.wind;
                    }
                }
                case "ring" -> {
                    if (s.rings.size() == 6) {
                        throw faultHere(6);
                    }
                    at++;
                    Ring ahead = s.rings.isEmpty() ? new Ring(61, 0) : s.rings.get(s.rings.size() - 1);
                    int reach = number(1, ahead.reach() - 1);
                    must("worth");
                    s.rings.add(new Ring(reach, number(ahead.worth() + 1, 20)));
                }
                case "pea" -> {
                    if (s.peas.size() == 8) {
                        throw faultHere(6);
                    }
                    at++;
                    String name = newName(names);
                    must("size");
                    int size = number(1, 12);
                    must("weight");
                    int weight = number(1, 20);
                    int crooked = perhaps("crooked") ? number(0, 4) : 0;
                    s.peas.add(new Pea(name, size, weight, crooked, perhaps("wet")));
                }
                case "shooter" -> {
                    if (s.shooters.size() == 6) {
                        throw faultHere(6);
                    }
                    at++;
                    String name = newName(names);
                    must("puff");
                    int puff = number(1, 40);
                    must("shake");
                    int shake = number(0, 6);
                    int right = 0;
                    int up = 0;
                    if (perhaps("lean")) {
                        right = number(0, 9);
                        up = number(0, 9);
                        up = perhaps("low") ? -up : up;
                    }
                    s.shooters.add(new Shooter(name, puff, shake, right, up));
                }
                default -> throw faultHere(2);
            }
            must(";");
        }
    }

    private String newName(Set<String> names) {
        String name = name();
        if (!names.add(name)) {
            throw faultHere(3);
        }
        at++;
        return name;
    }

    private int peaNamed() {
        String name = name();
        for (int i = 0; i < now.peas.size(); i++) {
            if (now.peas.get(i).name().equals(name)) {
                at++;
                return i;
            }
        }
        throw faultHere(3);
    }

    private int shooterNamed() {
        String name = name();
        for (int i = 0; i < now.shooters.size(); i++) {
            if (now.shooters.get(i).name().equals(name)) {
                at++;
                return i;
            }
        }
        throw faultHere(3);
    }

    private void parseSteps(List<Step> into, int[] count, int depth) {
        while (here().kind() != 'e' && !is("end")) {
            String word = here().kind() == 'w' ? here().text() : "";
            boolean nests = word.equals("when") || word.equals("loop");
            if (!Arrays.asList("load", "aim", "puff", "beat", "shoot", "wipe", "next", "when", "loop", "stop").contains(word)) {
                throw faultHere(2);
            }
            if (count[0] == 30) {
                throw faultHere(6);
            }
            if (nests && depth == 3) {
                throw faultHere(7);
            }
            count[0]++;
            at++;
            into.add(parseStep(word, count, depth));
        }
    }

    private Step parseStep(String word, int[] count, int depth) {
        int a = 0;
        int b = 0;
        char sign = ' ';
        String kind = word;
        List<Step> within = new ArrayList<>();
        switch (word) {
            case "load" -> a = peaNamed();
            case "shoot" -> a = shooterNamed();
            case "puff" -> a = number(1, 40);
            case "beat" -> a = number(0, 3);
            case "loop" -> a = number(1, 99);
            case "aim" -> {
                a = number(0, 60);
                b = number(0, 60);
                a = perhaps("left") ? -a : a;
                b = perhaps("low") ? -b : b;
            }
            case "when" -> {
                int most;
                if (perhaps("score")) {
                    a = shooterNamed();
                    kind = "when score";
                    most = 999;
                } else if (perhaps("holes")) {
                    kind = "when holes";
                    most = 60;
                } else if (perhaps("spit")) {
                    kind = "when spit";
                    most = 20;
                } else {
                    throw faultHere(2);
                }
                if (!is("<") && !is(">") && !is("=")) {
                    throw faultHere(2);
                }
                sign = here().text().charAt(0);
                at++;
                b = number(0, most);
            }
            default -> { }
        }
        must(";");
        if (word.equals("when") || word.equals("loop")) {
            parseSteps(within, count, depth + 1);
            must("end");
            must(";");
        }
        return new Step(kind, a, b, sign, within);
    }

    public int fault(int what) {
        return what == 0 ? faultKind : what == 1 ? faultPlace : -1;
    }

    private static int pick(int what, int... of) {
        need(in(what, 0, of.length - 1), 5);
        return of[what];
    }

    public int many(int what) {
        return (int) call(() -> pick(what, now.inches, now.bore, now.far, now.wind, now.rings.size(), now.peas.size(),
            now.shooters.size(), now.spit, now.holes.size()));
    }

    public int ring(int ring, int what) {
        return (int) call(() -> {
            need(in(ring, 0, now.rings.size() - 1), 2);
            return pick(what, now.rings.get(ring).reach(), now.rings.get(ring).worth());
        });
    }

    private Pea thePea(int pea) {
        need(in(pea, 0, now.peas.size() - 1), 2);
        return now.peas.get(pea);
    }

    private Shooter theShooter(int shooter) {
        need(in(shooter, 0, now.shooters.size() - 1), 2);
        return now.shooters.get(shooter);
    }

    public int pea(int pea, int what) {
        return (int) call(() -> {
            Pea p = thePea(pea);
            need(in(what, 0, 5), 5);
            int fit = now.bore - p.size();
            need(what < 4 || fit >= 0, 9);
            return pick(what, p.size(), p.weight(), p.crooked(), p.wet() ? 1 : 0, fit, fit >= 3 ? 1 : 0);
        });
    }

    public int shooter(int shooter, int what) {
        return (int) call(() -> {
            Shooter s = theShooter(shooter);
            int holes = (int) now.holes.stream().filter(h -> h.shooter() == shooter).count();
            return pick(what, s.puff(), s.shake(), s.right(), s.up(), now.scores.getOrDefault(shooter, 0), holes);
        });
    }

    /** What becomes of it (0 to 3), PACE, TIME, DROP, ASIDE, OFF. */
    private static int[] fly(Stand s, int pea, int puff, int spit, int inches) {
        Pea p = s.peas.get(pea);
        int fit = s.bore - p.size();
        if (fit < 0) {
            return new int[] {1, 0, 0, 0, 0, 0};
        }
        if (spit >= 8 || spit >= 3 && p.wet()) {
            return new int[] {2, 0, 0, 0, 0, 0};
        }
        int pace = Math.floorDiv(puff * inches, p.weight() + fit + spit);
        pace = p.wet() ? Math.floorDiv(pace, 2) : pace;
        if (pace < 24) {
            return new int[] {3, 0, 0, 0, 0, 0};
        }
        int time = s.far * 240 / pace + (s.far * 240 % pace == 0 ? 0 : 1);
        int aside = Integer.signum(s.wind) * Math.floorDiv(Math.abs(s.wind) * time, 8);
        return new int[] {0, pace, time, time * time / 64, aside, p.crooked() * time / 16 * (fit >= 3 ? 2 : 1)};
    }

    private int[] tell(int pea, int puff, int spit) {
        thePea(pea);
        need(in(puff, 1, 40) && in(spit, 0, 20), 5);
        return fly(now, pea, puff, spit, now.inches);
    }

    public int pace(int pea, int puff, int spit) {
        return (int) call(() -> {
            int[] f = tell(pea, puff, spit);
            need(f[0] == 0, 9);
            return f[1];
        });
    }

    public int flight(int pea, int puff, int spit, int what) {
        return (int) call(() -> {
            int[] f = tell(pea, puff, spit);
            need(in(what, 0, 3), 5);
            need(f[0] == 0, 9);
            return f[2 + what];
        });
    }

    public int becomes(int pea, int puff, int spit) {
        return (int) call(() -> tell(pea, puff, spit)[0]);
    }

    private void needShot(int shooter, int pea, int puff, int beat, int x, int y) {
        Shooter s = theShooter(shooter);
        thePea(pea);
        need(in(puff, 1, s.puff()) && in(beat, 0, 3) && in(x, -60, 60) && in(y, -60, 60), 5);
    }

    public int strikes(int shooter, int pea, int puff, int x, int y, int turn, int what) {
        return (int) call(() -> {
            needShot(shooter, pea, puff, 0, x, y);
            need(in(turn, -1, 1) && in(what, 0, 1), 5);
            int[] f = fly(now, pea, puff, now.spit, now.inches);
            need(f[0] == 0, 9);
            Shooter s = now.shooters.get(shooter);
            return what == 0 ? x + s.right() + f[4] + turn * f[5] : y + s.up() - f[3];
        });
    }

    private static int ringOf(Stand s, int x, int y) {
        int last = -1;
        for (int i = 0; i < s.rings.size(); i++) {
            int r = s.rings.get(i).reach();
            if (x * x + y * y <= r * r) {
                last = i;
            }
        }
        return last;
    }

    private static int pointsOf(Stand s, int x, int y) {
        int r = ringOf(s, x, y);
        return r < 0 ? 0 : s.rings.get(r).worth();
    }

    public int points(int x, int y) {
        return (int) call(() -> {
            need(in(x, -999, 999) && in(y, -999, 999), 5);
            return pointsOf(now, x, y);
        });
    }

    public int ringAt(int x, int y) {
        return (int) call(() -> {
            need(in(x, -999, 999) && in(y, -999, 999), 5);
            need(ringOf(now, x, y) >= 0, 8);
            return ringOf(now, x, y);
        });
    }

    private static int shakes(Shooter s, int beat) {
        int[] by = {s.shake(), s.shake() / 2 + s.shake() % 2, s.shake() == 0 ? 0 : 1, 0};
        return by[beat];
    }

    public int hand(int shooter, int beat) {
        return (int) call(() -> {
            Shooter s = theShooter(shooter);
            need(in(beat, 0, 3), 5);
            return shakes(s, beat);
        });
    }

    /** POINTS and in how many of all cases they are had. */
    private Map<Integer, Long> cases(int shooter, int pea, int puff, int beat, int x, int y, int spit, int inches) {
        Map<Integer, Long> all = new TreeMap<>();
        int[] f = fly(now, pea, puff, spit, inches);
        if (f[0] != 0) {
            all.put(0, 1L);
            return all;
        }
        Shooter s = now.shooters.get(shooter);
        int n = shakes(s, beat);
        int[] turns = f[5] > 0 ? new int[] {1, -1} : new int[] {0};
        for (int hx = -n; hx <= n; hx++) {
            for (int hy = -n; hy <= n; hy++) {
                for (int turn : turns) {
                    int p = pointsOf(now, x + s.right() + f[4] + hx + turn * f[5], y + s.up() + hy - f[3]);
                    all.merge(p, 1L, Long::sum);
                }
            }
        }
        return all;
    }

    private static long total(Map<Integer, Long> cases) {
        return cases.values().stream().mapToLong(v -> v).sum();
    }

    private static Fraction meanOf(Map<Integer, Long> cases) {
        return Fraction.of(cases.entrySet().stream().mapToLong(e -> e.getKey() * e.getValue()).sum(), total(cases));
    }

    private Fraction meanNow(int shooter, int pea, int puff, int beat, int x, int y) {
        return meanOf(cases(shooter, pea, puff, beat, x, y, now.spit, now.inches));
    }

    public boolean odds(int shooter, int pea, int puff, int beat, int x, int y, int points) {
        return test(() -> {
            needShot(shooter, pea, puff, beat, x, y);
            need(in(points, 1, 20), 5);
            Map<Integer, Long> c = cases(shooter, pea, puff, beat, x, y, now.spit, now.inches);
            told = Fraction.of(c.entrySet().stream().filter(e -> e.getKey() >= points).mapToLong(Map.Entry::getValue).sum(), total(c));
            return 1;
        });
    }

    public boolean mean(int shooter, int pea, int puff, int beat, int x, int y) {
        return test(() -> {
            needShot(shooter, pea, puff, beat, x, y);
            told = meanNow(shooter, pea, puff, beat, x, y);
            return 1;
        });
    }

    public int bestAim(int shooter, int pea, int puff, int beat, int what) {
        return (int) call(() -> {
            needShot(shooter, pea, puff, beat, 0, 0);
            need(in(what, 0, 1), 5);
            Fraction best = null;
            int answer = 0;
            for (int x = -20; x <= 20; x++) {
                for (int y = -20; y <= 20; y++) {
                    Fraction m = meanNow(shooter, pea, puff, beat, x, y);
                    if (best == null || m.compareTo(best) > 0) {
                        best = m;
                        answer = what == 0 ? x : y;
                    }
                }
            }
            told = best;
            return answer;
        });
    }

    private interface ByNumber {
        Fraction of(int i);
    }

    private int greatest(int from, int to, ByNumber by) {
        int best = from;
        for (int i = from + 1; i <= to; i++) {
            if (by.of(i).compareTo(by.of(best)) > 0) {
                best = i;
            }
        }
        return best;
    }

    private int tellGreatest(int from, int to, ByNumber by) {
        int best = greatest(from, to, by);
        told = by.of(best);
        return best;
    }

    public int bestPuff(int shooter, int pea, int beat, int x, int y) {
        return (int) call(() -> {
            needShot(shooter, pea, 1, beat, x, y);
            return tellGreatest(1, now.shooters.get(shooter).puff(), i -> meanNow(shooter, pea, i, beat, x, y));
        });
    }

    public int bestBeat(int shooter, int pea, int puff, int x, int y) {
        return (int) call(() -> {
            needShot(shooter, pea, puff, 0, x, y);
            return tellGreatest(0, 3, i -> meanNow(shooter, pea, puff, i, x, y));
        });
    }

    public int longest(int shooter, int pea, int puff, int beat, int x, int y) {
        return (int) call(() -> {
            needShot(shooter, pea, puff, beat, x, y);
            return tellGreatest(12, 48, i -> meanOf(cases(shooter, pea, puff, beat, x, y, now.spit, i)));
        });
    }

    public int bestPea(int shooter, int puff, int beat) {
        return (int) call(() -> {
            Shooter s = theShooter(shooter);
            need(in(puff, 1, s.puff()) && in(beat, 0, 3), 5);
            need(!now.peas.isEmpty(), 8);
            return tellGreatest(0, now.peas.size() - 1, i -> meanNow(shooter, i, puff, beat, 0, 0));
        });
    }

    private Fraction seriesOf(int shooter, int pea, int puff, int x, int y, int n, int k) {
        Fraction sum = Fraction.of(0, 1);
        int spit = 0;
        for (int i = 1; i <= n; i++) {
            sum = sum.plus(meanOf(cases(shooter, pea, puff, 2, x, y, spit, now.inches)));
            spit += fly(now, pea, puff, spit, now.inches)[0] == 0 && spit < 20 ? 1 : 0;
            spit = i % k == 0 ? 0 : spit;
        }
        return sum;
    }

    public boolean series(int shooter, int pea, int puff, int x, int y, int n, int k) {
        return test(() -> {
            needShot(shooter, pea, puff, 2, x, y);
            need(in(n, 1, 30) && in(k, 1, 30), 5);
            told = seriesOf(shooter, pea, puff, x, y, n, k);
            return 1;
        });
    }

    public int wipeEvery(int shooter, int pea, int puff, int n, int c) {
        return (int) call(() -> {
            needShot(shooter, pea, puff, 2, 0, 0);
            need(in(n, 1, 30) && in(c, 0, 99), 5);
            return greatest(1, 9, k -> seriesOf(shooter, pea, puff, 0, 0, n, k).minus(Fraction.of((long) c * (n / k), 16)));
        });
    }

    private Map<Integer, Long> rival(int shooter, int pea) {
        return cases(shooter, pea, now.shooters.get(shooter).puff(), 2, 0, 0, 0, now.inches);
    }

    /** ODDS that a's SHOTS have more (0), as many (1), less (2) than b's, SHOT by SHOT by how far a is ahead. */
    private static Fraction[] duel(Map<Integer, Long> a, Map<Integer, Long> b, int shots) {
        Map<Integer, Fraction> ahead = new TreeMap<>();
        ahead.put(0, Fraction.of(1, 1));
        for (int i = 0; i < 2 * shots; i++) {
            Map<Integer, Long> by = i % 2 == 0 ? a : b;
            int sign = i % 2 == 0 ? 1 : -1;
            Map<Integer, Fraction> next = new TreeMap<>();
            for (Map.Entry<Integer, Fraction> was : ahead.entrySet()) {
                for (Map.Entry<Integer, Long> one : by.entrySet()) {
                    next.merge(was.getKey() + sign * one.getKey(),
                        was.getValue().times(Fraction.of(one.getValue(), total(by))), Fraction::plus);
                }
            }
            ahead = next;
        }
        Fraction[] odds = {Fraction.of(0, 1), Fraction.of(0, 1), Fraction.of(0, 1)};
        for (Map.Entry<Integer, Fraction> e : ahead.entrySet()) {
            int which = 1 - Integer.signum(e.getKey());
            odds[which] = odds[which].plus(e.getValue());
        }
        return odds;
    }

    public boolean turns(int a, int peaA, int b, int peaB, int shots, int what) {
        return test(() -> {
            theShooter(a);
            theShooter(b);
            thePea(peaA);
            thePea(peaB);
            need(in(shots, 1, 5) && in(what, 0, 2), 5);
            told = duel(rival(a, peaA), rival(b, peaB), shots)[what];
            return 1;
        });
    }

    private Fraction winsOver(int a, int b, int pea) {
        Fraction[] odds = duel(rival(a, pea), rival(b, pea), 1);
        Fraction both = odds[0].plus(odds[2]);
        need(both.top().signum() > 0, 9);
        return odds[0].times(new Fraction(both.bottom(), both.top()));
    }

    public boolean knock(int tray, int pea, int k) {
        return test(() -> {
            place(tray, 3);
            thePea(pea);
            for (int i = 0; i < 4; i++) {
                need(in(trays[tray][i], 0, now.shooters.size() - 1), 2);
            }
            need(in(k, 0, 3), 5);
            int[] who = new int[4];
            for (int i = 0; i < 4; i++) {
                who[i] = (int) trays[tray][i];
            }
            int[][] order = {{0, 1, 2, 3}, {1, 0, 2, 3}, {2, 3, 0, 1}, {3, 2, 0, 1}};
            int me = who[order[k][0]];
            int mate = who[order[k][1]];
            int c = who[order[k][2]];
            int d = who[order[k][3]];
            Fraction final1 = winsOver(c, d, pea).times(winsOver(me, c, pea));
            Fraction final2 = winsOver(d, c, pea).times(winsOver(me, d, pea));
            told = winsOver(me, mate, pea).times(final1.plus(final2));
            return 1;
        });
    }

    public int hole(int k, int what) {
        return (int) call(() -> {
            need(in(what, 0, 3), 5);
            need(in(k, 0, now.holes.size() - 1), 8);
            Hole h = now.holes.get(k);
            return pick(what, h.x(), h.y(), h.shooter(), h.pea());
        });
    }

    private List<Hole> holesOf(int shooter, int pea) {
        return now.holes.stream().filter(h -> (shooter == -1 || h.shooter() == shooter) && (pea == -1 || h.pea() == pea)).toList();
    }

    private static Fraction meanX(List<Hole> holes) {
        return Fraction.of(holes.stream().mapToInt(Hole::x).sum(), holes.size());
    }

    private static Fraction meanY(List<Hole> holes) {
        return Fraction.of(holes.stream().mapToInt(Hole::y).sum(), holes.size());
    }

    private static Fraction spread(List<Hole> holes) {
        Fraction x = meanX(holes);
        Fraction y = meanY(holes);
        Fraction squares = Fraction.of(holes.stream().mapToInt(h -> h.x() * h.x() + h.y() * h.y()).sum(), holes.size());
        return squares.minus(x.times(x)).minus(y.times(y));
    }

    public boolean lean(int shooter, int pea, int what) {
        return test(() -> {
            need(in(shooter, -1, now.shooters.size() - 1) && in(pea, -1, now.peas.size() - 1), 2);
            need(in(what, 0, 2), 5);
            List<Hole> holes = holesOf(shooter, pea);
            need(!holes.isEmpty(), 8);
            told = what == 0 ? meanX(holes) : what == 1 ? meanY(holes) : spread(holes);
            return 1;
        });
    }

    public int whose(int x, int y) {
        return (int) call(() -> {
            need(in(x, -99, 99) && in(y, -99, 99), 5);
            need(!now.holes.isEmpty(), 8);
            int best = -1;
            Fraction nearest = null;
            for (int i = 0; i < now.shooters.size(); i++) {
                List<Hole> holes = holesOf(i, -1);
                if (!holes.isEmpty()) {
                    Fraction dx = Fraction.of(x, 1).minus(meanX(holes));
                    Fraction dy = Fraction.of(y, 1).minus(meanY(holes));
                    Fraction d = dx.times(dx).plus(dy.times(dy));
                    if (nearest == null || d.compareTo(nearest) < 0) {
                        nearest = d;
                        best = i;
                    }
                }
            }
            return best;
        });
    }

    public int worst(int what) {
        return (int) call(() -> {
            need(in(what, 0, 1), 5);
            need(!now.holes.isEmpty(), 8);
            int best = -1;
            Fraction widest = null;
            int many = what == 0 ? now.shooters.size() : now.peas.size();
            for (int i = 0; i < many; i++) {
                List<Hole> holes = what == 0 ? holesOf(i, -1) : holesOf(-1, i);
                if (!holes.isEmpty() && (widest == null || spread(holes).compareTo(widest) > 0)) {
                    widest = spread(holes);
                    best = i;
                }
            }
            return best;
        });
    }

    public int sieve(int wide) {
        return (int) call(() -> {
            need(in(wide, 1, 12), 5);
            int set = 0;
            for (int i = now.peas.size() - 1; i >= 0; i--) {
                set = 2 * set + (now.peas.get(i).size() <= wide ? 1 : 0);
            }
            return set;
        });
    }

    public int same() {
        return (int) call(() -> {
            Map<String, Integer> places = new HashMap<>();
            int couples = 0;
            for (Hole h : now.holes) {
                int before = places.merge(h.x() + "," + h.y(), 1, Integer::sum) - 1;
                couples += before;
            }
            return couples;
        });
    }

    private static int strike(Stand s, int shooter, int pea, int x, int y) {
        int points = pointsOf(s, x, y);
        s.scores.merge(shooter, points, Integer::sum);
        s.spit = Math.min(20, s.spit + 1);
        if (in(x, -99, 99) && in(y, -99, 99)) {
            s.holes.add(new Hole(x, y, shooter, pea));
        }
        return points;
    }

    public int shoot(int shooter, int pea, int puff, int x, int y, int turn, int handX, int handY) {
        return (int) call(() -> {
            needShot(shooter, pea, puff, 0, x, y);
            need(in(turn, -1, 1) && in(handX, -6, 6) && in(handY, -6, 6), 5);
            need(now.holes.size() < 60, 7);
            int[] f = fly(now, pea, puff, now.spit, now.inches);
            need(f[0] == 0, 9);
            Shooter s = now.shooters.get(shooter);
            return strike(now, shooter, pea, x + s.right() + f[4] + handX + turn * f[5], y + s.up() + handY - f[3]);
        });
    }

    public int wipe() {
        return (int) call(() -> {
            int was = now.spit;
            now.spit = 0;
            return was;
        });
    }

    /** One time a ROUND is shot, on a stand of its own or the real one. */
    private static final class Game {
        final Stand s;
        int draw;
        int done = 0;
        /** MISSED, flew, DROPPED or STUCK, POINTS, left. */
        final int[] told = new int[5];
        int pea = 0;
        int x = 0;
        int y = 0;
        int puff = 20;
        int beat = 0;

        Game(Stand s, int seed) {
            this.s = s;
            this.draw = seed;
        }

        void play() {
            try {
                steps(s.round);
            } catch (Over over) {
                // stop, or the 300
            }
        }

        private void steps(List<Step> steps) {
            for (Step step : steps) {
                if (done == 300) {
                    told[4] = 1;
                    throw new Over();
                }
                done++;
                step(step);
            }
        }

        private void step(Step t) {
            switch (t.word()) {
                case "load" -> pea = t.a();
                case "aim" -> {
                    x = t.a();
                    y = t.b();
                }
                case "puff" -> puff = t.a();
                case "beat" -> beat = t.a();
                case "wipe" -> s.spit = 0;
                case "next" -> {
                    if (s.peas.isEmpty()) {
                        told[0]++;
                    } else {
                        pea = (pea + 1) % s.peas.size();
                    }
                }
                case "shoot" -> shot(t.a());
                case "stop" -> throw new Over();
                case "loop" -> {
                    for (int i = 0; i < t.a(); i++) {
                        steps(t.within());
                    }
                }
                default -> {
                    int v = t.word().equals("when score") ? s.scores.getOrDefault(t.a(), 0)
                        : t.word().equals("when holes") ? s.holes.size() : s.spit;
                    if (t.sign() == '<' ? v < t.b() : t.sign() == '>' ? v > t.b() : v == t.b()) {
                        steps(t.within());
                    }
                }
            }
        }

        private int drawBy(int n) {
            draw = (int) (((long) draw * 2851 + 11027) % 65536);
            return draw / 8 % n;
        }

        private void shot(int shooter) {
            if (s.peas.isEmpty() || s.peas.get(pea).size() > s.bore || s.holes.size() == 60) {
                told[0]++;
                return;
            }
            Shooter by = s.shooters.get(shooter);
            int[] f = fly(s, pea, Math.min(puff, by.puff()), s.spit, s.inches);
            if (f[0] != 0) {
                told[2]++;
                return;
            }
            int n = shakes(by, beat);
            int hx = n == 0 ? 0 : drawBy(2 * n + 1) - n;
            int hy = n == 0 ? 0 : drawBy(2 * n + 1) - n;
            int turn = f[5] == 0 ? 0 : drawBy(2) == 0 ? 1 : -1;
            told[1]++;
            told[3] += strike(s, shooter, pea, x + by.right() + f[4] + hx + turn * f[5], y + by.up() + hy - f[3]);
        }
    }

    public int play(int seed) {
        return (int) call(() -> {
            need(in(seed, 0, 9999), 5);
            need(now.round != null, 8);
            Game g = new Game(now, seed);
            g.play();
            played = g.told;
            return g.done;
        });
    }

    public int played(int what) {
        return (int) call(() -> {
            need(in(what, 0, 4), 5);
            need(played != null, 8);
            return played[what];
        });
    }

    public boolean wins(int shooter, int seed, int many) {
        return test(() -> {
            theShooter(shooter);
            need(in(seed, 0, 9999) && in(many, 1, 20) && (long) seed + many <= 10000, 5);
            need(now.round != null, 8);
            int won = 0;
            for (int i = 0; i < many; i++) {
                Stand s = now.copy();
                new Game(s, seed + i).play();
                int mine = s.scores.getOrDefault(shooter, 0);
                boolean alone = true;
                for (int o = 0; o < s.shooters.size(); o++) {
                    alone &= o == shooter || s.scores.getOrDefault(o, 0) < mine;
                }
                won += alone ? 1 : 0;
            }
            told = Fraction.of(won, many);
            return 1;
        });
    }

    public int mark() {
        return (int) call(() -> {
            need(marks.size() < 3, 7);
            marks.add(now.copy());
            return marks.size();
        });
    }

    public int back() {
        return (int) call(() -> {
            need(!marks.isEmpty(), 8);
            now = marks.remove(marks.size() - 1);
            return marks.size();
        });
    }
}
