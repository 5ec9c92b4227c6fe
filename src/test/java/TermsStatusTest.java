import java.util.ArrayList;
import java.util.List;

/** The edges that the Terms behind "==== 5." name: which STATUS comes first, and that a refused call changes nothing. */
public final class TermsStatusTest {
    private static final String STATUS = "==== 5.";

    /** A call; of a boolean one NONE stands for false. */
    private interface Call {
        long on(PeaTube x);
    }

    private static long truth(boolean got) {
        return Edges.truth(got);
    }

    /** All there can be: HOLES, SPIT, scores, a ROUND that was played, three MARKS, TRAYS, a FRACTION, a FAULT, a tape. */
    private static PeaTube rich() {
        PeaTube x = Check.withTent("far 4; wind 3 left; ring 9 worth 2; pea p size 8 weight 1; shooter s puff 40 shake 1;");
        x.mark();
        Check.tent(x, Check.FAIR);
        Check.round(x, "aim 1 2; shoot ann; next; shoot bob; when spit > 0; shoot cid; end;");
        x.play(12);
        x.mark();
        x.shoot(0, 1, 30, 4, 4, 0, 1, 1);
        x.mark();
        x.shoot(2, 0, 30, -4, 14, 1, 1, -1);
        x.tray(0, 3, 5);
        x.tray(1, 2, 3);
        x.tray(2, 3, 4);
        for (int i = 0; i < 5; i++) {
            x.write(0, i, 1);
            x.write(1, i, 0x123456789L * i);
            x.write(2, i, 3 + i);
        }
        x.lean(-1, -1, 2);
        Check.feed(x, "far 3;");
        x.tent(6);
        Check.feed(x, "far 9; wind 8;");
        return x;
    }

    /** No PEAS, HOLES, ROUND, MARKS, and no play(). */
    private static PeaTube bare() {
        PeaTube x = Check.withTent("ring 9 worth 1; shooter s puff 9 shake 1;");
        x.tray(0, 3, 5);
        Check.feed(x, "far 9; wind 8;");
        return x;
    }

    /** 60 HOLES. */
    private static PeaTube full() {
        PeaTube x = rich();
        for (int i = 0; i < 60; i++) {
            x.shoot(1, 1, 20, i - 30, 9, 0, 0, 0);
            x.wipe();
        }
        Check.feed(x, "wind 7;");
        return x;
    }

    /** All that an object tells, and what it does then: the tape, the FAULT, and all else. */
    private static List<Long> all(PeaTube x) {
        List<Long> all = new ArrayList<>();
        all.add((long) x.fault(0));
        all.add((long) x.fault(1));
        told(x, all);
        all.add((long) x.feed(0x66617220, 0x373b2020, 0x20202020, 0x20202020, 0x20202020));
        all.add((long) x.round(999));
        all.add((long) x.tent(20));
        all.addAll(allButTheText(x));
        return all;
    }

    private static List<Long> allButTheText(PeaTube x) {
        List<Long> all = new ArrayList<>();
        told(x, all);
        for (int i = 0; i < 4; i++) {
            all.add((long) x.play(99));
            all.add(truth(x.wins(0, 5, 3)));
            told(x, all);
            all.add((long) x.back());
            told(x, all);
        }
        return all;
    }

    private static void told(PeaTube x, List<Long> all) {
        all.add(x.top());
        all.add(x.bottom());
        for (int i = -1; i < 9; i++) {
            all.add((long) x.many(i));
            all.add((long) x.played(i));
            for (int k = 0; k < 62; k++) {
                all.add((long) x.ring(k, i));
                all.add((long) x.pea(k, i));
                all.add((long) x.shooter(k, i));
                all.add((long) x.hole(k, i));
                all.add(x.read(i, k));
            }
        }
    }

    /** The call is refused with this STATUS, and leaves all as it is in one that has not had it. */
    private static void refused(String call, int status, PeaTube x, PeaTube twin, Call made) {
        Check.no(x, call, made.on(x), status);
        Check.due(call + " with " + status + " changes nothing", all(x).equals(all(twin)), true);
    }

    private static void refused(String call, int status, Call made) {
        refused(call, status, rich(), rich(), made);
    }

    private static void none(String call, int status, Call made) {
        refused(call, status, bare(), bare(), made);
    }

    @Sentence(in = STATUS, says = "A call with another STATUS than 0 gives NONE, or false, and changes nothing but STATUS")
    private static void refusedTraysAndTextsChangeNothing() {
        refused("tray", 1, x -> truth(x.tray(4, 0, 1)));
        refused("tray", 1, x -> truth(x.tray(0, 4, 1)));
        refused("tray", 5, x -> truth(x.tray(0, 0, 61)));
        refused("tray", 6, x -> truth(x.tray(0, 0, -1)));
        refused("write", 1, x -> truth(x.write(-1, 0, 7)));
        refused("write", 3, x -> truth(x.write(3, 0, 7)));
        refused("write", 4, x -> truth(x.write(0, 5, 7)));
        refused("read", 1, x -> x.read(-1, 0));
        refused("read", 3, x -> x.read(3, 0));
        refused("read", 4, x -> x.read(0, 5));
        refused("pour", 1, x -> truth(x.pour(0, 0, 4, 0, 1)));
        refused("pour", 3, x -> truth(x.pour(0, 0, 3, 0, 1)));
        refused("pour", 11, x -> truth(x.pour(0, 0, 1, 0, 1)));
        refused("pour", 6, x -> truth(x.pour(0, 0, 2, 0, -1)));
        refused("pour", 4, x -> truth(x.pour(0, 0, 2, 2, 3)));
        refused("tent", 5, x -> x.tent(21));
        refused("tent", 5, x -> x.tent(-1));
        refused("round", 5, x -> x.round(21));
        refused("round", 5, x -> x.round(-1));
        refused("many", 5, x -> x.many(9));
        refused("ring", 2, x -> x.ring(3, 0));
        refused("ring", 5, x -> x.ring(2, 2));
        refused("pea", 2, x -> x.pea(4, 0));
        refused("pea", 5, x -> x.pea(0, 6));
        refused("pea", 9, x -> x.pea(3, 4));
        refused("shooter", 2, x -> x.shooter(3, 0));
        refused("shooter", 5, x -> x.shooter(0, 6));
    }

    @Sentence(in = STATUS, says = "A call with another STATUS than 0 gives NONE, or false, and changes nothing but STATUS")
    private static void refusedShotsChangeNothing() {
        refused("pace", 2, x -> x.pace(4, 1, 0));
        refused("pace", 5, x -> x.pace(0, 41, 0));
        refused("pace", 9, x -> x.pace(3, 40, 0));
        refused("flight", 2, x -> x.flight(4, 1, 0, 0));
        refused("flight", 5, x -> x.flight(0, 1, 21, 0));
        refused("flight", 9, x -> x.flight(0, 40, 8, 0));
        refused("becomes", 2, x -> x.becomes(-1, 1, 0));
        refused("becomes", 5, x -> x.becomes(0, 1, -1));
        refused("strikes", 2, x -> x.strikes(3, 0, 1, 0, 0, 0, 0));
        refused("strikes", 5, x -> x.strikes(0, 0, 31, 0, 0, 0, 0));
        refused("strikes", 9, x -> x.strikes(0, 3, 30, 0, 0, 0, 0));
        refused("points", 5, x -> x.points(1000, 0));
        refused("ringAt", 5, x -> x.ringAt(0, -1000));
        refused("ringAt", 8, x -> x.ringAt(0, 31));
        refused("hand", 2, x -> x.hand(3, 0));
        refused("hand", 5, x -> x.hand(0, 4));
        refused("shoot", 2, x -> x.shoot(0, 4, 30, 0, 0, 0, 0, 0));
        refused("shoot", 5, x -> x.shoot(0, 0, 30, 0, 0, 2, 0, 0));
        refused("shoot", 9, x -> x.shoot(0, 3, 30, 0, 0, 0, 0, 0));
        refused("shoot that drops", 9, x -> x.shoot(1, 0, 1, 0, 0, 0, 0, 0));
        refused("shoot at 60 holes", 7, full(), full(), x -> x.shoot(0, 1, 30, 0, 0, 0, 0, 0));
    }

    @Sentence(in = STATUS, says = "A call with another STATUS than 0 gives NONE, or false, and changes nothing but STATUS")
    private static void refusedBestChangesNothing() {
        refused("odds", 2, x -> truth(x.odds(3, 0, 1, 0, 0, 0, 1)));
        refused("odds", 5, x -> truth(x.odds(0, 1, 30, 0, 0, 0, 21)));
        refused("mean", 2, x -> truth(x.mean(0, 4, 30, 0, 0, 0)));
        refused("mean", 5, x -> truth(x.mean(0, 1, 30, 0, 0, 61)));
        refused("bestAim", 2, x -> x.bestAim(3, 0, 1, 0, 0));
        refused("bestAim", 5, x -> x.bestAim(0, 1, 30, 0, 2));
        refused("bestPuff", 2, x -> x.bestPuff(0, 4, 0, 0, 0));
        refused("bestPuff", 5, x -> x.bestPuff(0, 1, 4, 0, 0));
        refused("bestBeat", 2, x -> x.bestBeat(-1, 1, 1, 0, 0));
        refused("bestBeat", 5, x -> x.bestBeat(0, 1, 31, 0, 0));
        refused("longest", 2, x -> x.longest(0, -1, 1, 0, 0, 0));
        refused("longest", 5, x -> x.longest(0, 1, 1, 0, 61, 0));
        refused("bestPea", 2, x -> x.bestPea(3, 1, 0));
        refused("bestPea", 5, x -> x.bestPea(1, 21, 0));
        none("bestPea", 8, x -> x.bestPea(0, 9, 0));
        refused("series", 2, x -> truth(x.series(3, 1, 1, 0, 0, 1, 1)));
        refused("series", 5, x -> truth(x.series(0, 1, 1, 0, 0, 1, 31)));
        refused("wipeEvery", 2, x -> x.wipeEvery(0, 4, 1, 1, 0));
        refused("wipeEvery", 5, x -> x.wipeEvery(0, 1, 1, 1, 100));
        refused("turns", 2, x -> truth(x.turns(0, 1, 1, 4, 1, 0)));
        refused("turns", 5, x -> truth(x.turns(0, 1, 1, 1, 6, 0)));
        refused("knock", 1, x -> truth(x.knock(4, 1, 0)));
        refused("knock", 3, x -> truth(x.knock(3, 1, 0)));
        refused("knock", 4, x -> truth(x.knock(1, 1, 0)));
        refused("knock", 2, x -> truth(x.knock(2, 1, 0)));
        refused("knock", 5, x -> truth(x.knock(0, 1, 4)));
        refused("knock", 9, x -> truth(x.knock(0, 1, 0)));
    }

    @Sentence(in = STATUS, says = "A call with another STATUS than 0 gives NONE, or false, and changes nothing but STATUS")
    private static void refusedHolesRoundsMarksChangeNothing() {
        refused("hole", 5, x -> x.hole(0, 4));
        refused("hole", 8, x -> x.hole(60, 0));
        refused("lean", 2, x -> truth(x.lean(3, -1, 0)));
        refused("lean", 5, x -> truth(x.lean(-1, -1, 3)));
        refused("lean", 8, x -> truth(x.lean(0, 3, 0)));
        refused("whose", 5, x -> x.whose(100, 0));
        none("whose", 8, x -> x.whose(0, 0));
        refused("worst", 5, x -> x.worst(2));
        none("worst", 8, x -> x.worst(0));
        refused("sieve", 5, x -> x.sieve(13));
        refused("play", 5, x -> x.play(10000));
        none("play", 8, x -> x.play(0));
        refused("played", 5, x -> x.played(5));
        none("played", 8, x -> x.played(0));
        refused("wins", 2, x -> truth(x.wins(3, 0, 1)));
        refused("wins", 5, x -> truth(x.wins(0, 9981, 20)));
        none("wins", 8, x -> truth(x.wins(0, 0, 1)));
        refused("mark", 7, x -> x.mark());
        none("back", 8, x -> x.back());
    }

    @Sentence(in = STATUS, says = "(but tent(), round() with 10 the tape, and what fault() tells)")
    private static void aFaultChangesTheTapeAndWhatFaultTells() {
        for (int text = 0; text < 2; text++) {
            PeaTube x = rich();
            PeaTube twin = rich();
            Check.due("bytes on the tape ahead", twin.feed(0, 0, 0, 0, 0), 40);
            Check.due("fault(0) ahead", twin.fault(0), 4);
            Check.no(x, "a text with a fault", text == 0 ? x.tent(3) : x.round(3), 10);
            Check.due("fault(0)", x.fault(0), 2);
            Check.due("fault(1)", x.fault(1), text == 0 ? 3 : 0);
            Check.due("bytes on the tape behind", x.feed(0, 0, 0, 0, 0), 20);
            Check.due("nothing else has changed", allButTheText(x).equals(allButTheText(twin)), true);
        }
    }

    @Sentence(in = STATUS, says = "STATUS of a call is the first of these that holds")
    private static void theFirstStatusThatHolds() {
        PeaTube x = rich();
        Check.no(x, "1 and 5", x.tray(4, 0, 61), 1);
        Check.no(x, "1 and 6", x.tray(0, 4, -1), 1);
        Check.no(x, "1 and 4", x.write(4, 60, 1), 1);
        Check.no(x, "3 and 4", x.write(3, 60, 1), 3);
        Check.no(x, "3 and 4", x.read(3, -1), 3);
        Check.no(x, "2 and 5", x.ring(9, 9), 2);
        Check.no(x, "2 and 5", x.pea(9, 9), 2);
        Check.no(x, "5 and 9", x.pea(3, 9), 5);
        Check.no(x, "2 and 5", x.shooter(9, 9), 2);
        Check.no(x, "2 and 5", x.pace(9, 99, 99), 2);
        Check.no(x, "5 and 9", x.pace(3, 99, 0), 5);
        Check.no(x, "5 and 9", x.flight(3, 40, 0, 4), 5);
        Check.no(x, "2 and 5 and 9", x.strikes(9, 3, 99, 99, 99, 9, 9), 2);
        Check.no(x, "2 and 5", x.strikes(0, 9, 99, 99, 99, 9, 9), 2);
        Check.no(x, "5 and 9", x.strikes(0, 3, 30, 0, 0, 0, 2), 5);
        Check.no(x, "5 and 9", x.strikes(0, 3, 30, 0, 0, 2, 0), 5);
        Check.no(x, "2 and 5", x.hand(9, 9), 2);
        Check.no(x, "2 and 5", x.odds(0, 9, 99, 9, 99, 99, 99), 2);
        Check.no(x, "2 and 5", x.bestAim(9, 0, 99, 9, 9), 2);
        Check.no(x, "2 and 5", x.bestPuff(0, 9, 9, 99, 99), 2);
        Check.no(x, "2 and 5", x.bestBeat(9, 0, 99, 99, 99), 2);
        Check.no(x, "2 and 5", x.longest(0, 9, 99, 9, 99, 99), 2);
        Check.no(x, "2 and 5", x.bestPea(9, 99, 9), 2);
        Check.no(x, "2 and 5", x.series(0, 9, 99, 99, 99, 99, 99), 2);
        Check.no(x, "2 and 5", x.wipeEvery(9, 0, 99, 99, -1), 2);
        Check.no(x, "2 and 5", x.turns(0, 0, 0, 9, 9, 9), 2);
        Check.no(x, "5 and 8", x.hole(99, 9), 5);
        Check.no(x, "2 and 5 and 8", x.lean(9, 3, 9), 2);
        Check.no(x, "5 and 8", x.lean(0, 3, 9), 5);
        Check.no(x, "2 and 5", x.wins(9, -1, 99), 2);
        PeaTube y = bare();
        Check.no(y, "2 and 8", y.bestPea(1, 9, 0), 2);
        Check.no(y, "5 and 8", y.bestPea(0, 10, 0), 5);
        Check.no(y, "5 and 8", y.whose(100, 0), 5);
        Check.no(y, "5 and 8", y.worst(2), 5);
        Check.no(y, "5 and 8", y.play(-1), 5);
        Check.no(y, "5 and 8", y.played(-1), 5);
        Check.no(y, "5 and 8", y.wins(0, -1, 1), 5);
        Check.no(y, "5 and 8", y.ringAt(1000, 0), 5);
        PeaTube z = full();
        Check.no(z, "2 and 7", z.shoot(9, 3, 1, 0, 0, 0, 0, 0), 2);
        Check.no(z, "5 and 7", z.shoot(0, 3, 1, 61, 0, 0, 0, 0), 5);
        Check.no(z, "7 and 9", z.shoot(0, 3, 1, 0, 0, 0, 0, 0), 7);
        Check.no(z, "7 and 9", z.shoot(0, 1, 1, 0, 0, 0, 0, 0), 7);
    }

    @Sentence(in = STATUS, says = "1 no such TRAY (or sort).")
    private static void status1NoSuchTrayOrSort() {
        PeaTube x = new PeaTube();
        Edges.fine(x, "tray", 1, 0, 3, v -> truth(x.tray(v, 0, 1)));
        Edges.fine(x, "sort", 1, 0, 3, v -> truth(x.tray(0, v, 1)));
    }

    @Sentence(in = STATUS, says = "2 no such PEA, SHOOTER, RING.")
    private static void status2NoSuchPeaShooterRing() {
        PeaTube x = Check.withTent(Check.FAIR);
        Edges.fine(x, "pea", 2, 0, 3, v -> x.pea(v, 0));
        Edges.fine(x, "shooter", 2, 0, 2, v -> x.shooter(v, 0));
        Edges.fine(x, "ring", 2, 0, 2, v -> x.ring(v, 0));
        PeaTube y = new PeaTube();
        Check.no(y, "pea of none", y.pea(0, 0), 2);
        Check.no(y, "shooter of none", y.shooter(0, 0), 2);
        Check.no(y, "ring of none", y.ring(0, 0), 2);
        // those of the TENT ahead are gone
        x.tent(0);
        Check.no(x, "pea", x.pea(0, 0), 2);
        Check.no(x, "shooter", x.shooter(0, 0), 2);
        Check.no(x, "ring", x.ring(0, 0), 2);
    }

    @Sentence(in = STATUS, says = "3 the TRAY is MISSING.")
    private static void status3TheTrayIsMissing() {
        PeaTube x = new PeaTube();
        Check.no(x, "read", x.read(2, 0), 3);
        x.tray(2, 0, 0);
        Check.no(x, "a tray of no numbers is not missing", x.read(2, 0), 4);
    }

    @Sentence(in = STATUS, says = "4 a place that the TRAY has not, or too few numbers.")
    private static void status4NoSuchPlaceOrTooFewNumbers() {
        PeaTube x = Check.withTent(Check.FAIR);
        x.tray(0, 3, 5);
        Edges.fine(x, "place", 4, 0, 4, v -> x.read(0, v));
        Edges.fine(x, "place", 4, 0, 4, v -> truth(x.write(0, v, 0)));
        x.tray(0, 3, 3);
        Check.no(x, "three numbers for four", x.knock(0, 0, 0), 4);
        Check.no(x, "a place of the tray ahead", x.read(0, 3), 4);
        x.tray(0, 3, 4);
        Check.yes(x, "four numbers for four", x.knock(0, 0, 0));
    }

    @Sentence(in = STATUS, says = "5 a number that can't be.")
    private static void status5ANumberThatCannotBe() {
        PeaTube x = Check.withTent(Check.FAIR);
        Edges.fine(x, "what of many", 5, 0, 8, v -> x.many(v));
        Edges.fine(x, "wide", 5, 1, 12, v -> x.sieve(v));
    }

    @Sentence(in = STATUS, says = "6 below 0 (a TRAY's length).")
    private static void status6ATraysLengthBelow0() {
        PeaTube x = new PeaTube();
        Check.no(x, "tray of -1", x.tray(0, 0, -1), 6);
        Check.no(x, "tray of the least", x.tray(0, 0, Integer.MIN_VALUE), 6);
        Check.yes(x, "tray of 0", x.tray(0, 0, 0));
        Check.no(x, "pour of -1", x.pour(0, 0, 0, 0, -1), 6);
        Check.yes(x, "pour of 0", x.pour(0, 0, 0, 0, 0));
    }

    @Sentence(in = STATUS, says = "7 one too many.")
    private static void status7OneTooMany() {
        PeaTube x = full();
        Check.no(x, "a 61st hole", x.shoot(0, 1, 30, 0, 0, 0, 0, 0), 7);
        Check.no(x, "a fourth mark", x.mark(), 7);
    }

    @Sentence(in = STATUS, says = "8 there is none.")
    private static void status8ThereIsNone() {
        PeaTube x = bare();
        Check.no(x, "ringAt", x.ringAt(10, 0), 8);
        Check.no(x, "bestPea", x.bestPea(0, 1, 0), 8);
        Check.no(x, "hole", x.hole(0, 0), 8);
        Check.no(x, "lean", x.lean(-1, -1, 0), 8);
        Check.no(x, "whose", x.whose(0, 0), 8);
        Check.no(x, "worst", x.worst(1), 8);
        Check.no(x, "play", x.play(0), 8);
        Check.no(x, "played", x.played(0), 8);
        Check.no(x, "wins", x.wins(0, 0, 1), 8);
        Check.no(x, "back", x.back(), 8);
    }

    @Sentence(in = STATUS, says = "9 it can't be.")
    private static void status9ItCannotBe() {
        PeaTube x = Check.withTent(Check.FAIR);
        Check.no(x, "fit of one too large", x.pea(3, 4), 9);
        Check.no(x, "pace of one that drops", x.pace(1, 2, 0), 9);
        Check.no(x, "flight of one that sticks", x.flight(1, 30, 8, 0), 9);
        Check.no(x, "strikes of one that drops", x.strikes(0, 1, 2, 0, 0, 0, 0), 9);
        Check.no(x, "shoot of one too large", x.shoot(0, 3, 30, 0, 0, 0, 0, 0), 9);
        x.tray(0, 3, 4);
        Check.no(x, "knock of nothing but pea 3", x.knock(0, 3, 0), 9);
    }

    @Sentence(in = STATUS, says = "10 a FAULT.")
    private static void status10AFault() {
        PeaTube x = Check.withTent(Check.FAIR);
        Check.no(x, "tent", Check.tent(x, "!"), 10);
        Check.no(x, "round", Check.round(x, "!"), 10);
    }

    @Sentence(in = STATUS, says = "11 TRAYS of unlike sorts.")
    private static void status11TraysOfUnlikeSorts() {
        PeaTube x = new PeaTube();
        for (int tray = 0; tray < 4; tray++) {
            x.tray(tray, tray, 3);
        }
        for (int i = 0; i < 16; i++) {
            boolean got = x.pour(i / 4, 0, i % 4, 0, 3);
            Check.due("pour from " + i / 4 + " to " + i % 4, got, i / 4 == i % 4);
            Check.due("status", x.status(), i / 4 == i % 4 ? 0 : 11);
        }
    }

    @Sentence(in = STATUS, says = "0 else.")
    private static void status0Else() {
        PeaTube x = rich();
        Check.no(x, "many(9)", x.many(9), 5);
        Check.yes(x, "tray", x.tray(3, 0, 60));
        Check.no(x, "many(9)", x.many(9), 5);
        Check.yes(x, "wipe", x.wipe() >= 0);
        Check.no(x, "many(9)", x.many(9), 5);
        Check.yes(x, "same", x.same() >= 0);
        Check.no(x, "many(9)", x.many(9), 5);
        Check.yes(x, "tent", x.tent(6), 0);
    }

    @Sentence(in = STATUS, says = "status(), fault(), feed(), top(), bottom() have none.")
    private static void callsWithoutAStatus() {
        PeaTube x = rich();
        for (int status = 0; status < 2; status++) {
            int due = status == 0 ? 0 : 5;
            x.many(status == 0 ? 0 : 9);
            Check.due("status() again", x.status(), due);
            x.fault(0);
            Check.due("status behind fault(0)", x.status(), due);
            Check.due("fault(7)", x.fault(7), -1);
            Check.due("status behind fault(7)", x.status(), due);
            x.feed(0, 0, 0, 0, 0);
            Check.due("status behind feed()", x.status(), due);
            x.top();
            x.bottom();
            Check.due("status behind top(), bottom()", x.status(), due);
        }
        for (int i = 0; i < 42; i++) {
            Check.due("feed", x.feed(0, 0, 0, 0, 0), 80 + 20 * i);
            Check.due("status", x.status(), 5);
        }
        Check.due("feed of more than 900", x.feed(0, 0, 0, 0, 0), -1);
        Check.due("status behind a feed() that is NONE", x.status(), 5);
    }

    public static void main(String[] args) throws Exception {
        Sentences.test(TermsStatusTest.class);
    }
}
