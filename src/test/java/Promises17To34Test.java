/** The edges that promises 17 to 34 name: one SHOT, what is best, who wins. */
public final class Promises17To34Test {
    /** TIME 1 to 4 with a PUFF of 20 and more, DROP 0: it STRIKES where it is aimed at, as long as SPIT is below 8. */
    private static final String STRAIGHT = "tube 48 bore 3; far 4; ring 2 worth 3; ring 1 worth 7;"
        + "pea p size 3 weight 1; pea fat size 4 weight 1; pea wetty size 3 weight 1 wet;"
        + "shooter shaky puff 40 shake 1; shooter still puff 40 shake 0; shooter soft puff 20 shake 6; shooter weak puff 1 shake 0;";

    private static long truth(boolean got) {
        return Edges.truth(got);
    }

    private static PeaTube fair() {
        return Check.withTent(Check.FAIR);
    }

    private static PeaTube straight() {
        return Check.withTent(STRAIGHT);
    }

    @Sentence(in = "Promise 17", says = "PACE with a PUFF (1 to 40) and so much SPIT (0 to 20) (2; 5; 9: it does not go in, DROPS, STICKS).")
    private static void paceWithin() {
        PeaTube x = fair();
        Edges.within(x, "pea", 2, 0, 3, v -> x.pace(v, 40, 0));
        Edges.within(x, "puff", 5, 1, 40, v -> x.pace(1, v, 0));
        Edges.within(x, "spit", 5, 0, 20, v -> x.pace(1, 40, v));
        Check.no(x, "2 ahead of 5", x.pace(4, 0, 21), 2);
        Check.no(x, "5 ahead of 9", x.pace(3, 0, 0), 5);
        Check.no(x, "does not go in", x.pace(3, 40, 0), 9);
        Check.no(x, "drops", x.pace(1, 2, 0), 9);
        Check.yes(x, "just flies", x.pace(1, 3, 0), 24);
        Check.no(x, "sticks", x.pace(1, 40, 8), 9);
        Check.yes(x, "just goes", x.pace(1, 40, 7), 96);
        Check.no(x, "wet, sticks", x.pace(2, 40, 3), 9);
        Check.yes(x, "wet, just goes", x.pace(2, 40, 2), 96);
        Check.yes(x, "harder than any shooter can", x.pace(1, 40, 0), 320);
    }

    @Sentence(in = "Promise 18", says = "TIME (what 0), DROP (1), ASIDE (2: below 0 to the left; STATUS tells NONE), OFF (3) (likewise).")
    private static void flightWithin() {
        PeaTube x = fair();
        Edges.within(x, "pea", 2, 0, 3, v -> x.flight(v, 40, 0, 0));
        Edges.within(x, "puff", 5, 1, 40, v -> x.flight(1, v, 0, 0));
        Edges.within(x, "spit", 5, 0, 20, v -> x.flight(1, 40, v, 0));
        Edges.fine(x, "what", 5, 0, 3, v -> x.flight(1, 40, 0, v));
        Check.no(x, "2 ahead of 5", x.flight(4, 0, 0, 0), 2);
        Check.no(x, "5 ahead of 9", x.flight(3, 40, 0, 4), 5);
        Check.no(x, "does not go in", x.flight(3, 40, 0, 0), 9);
        Check.no(x, "drops", x.flight(1, 2, 0, 1), 9);
        Check.no(x, "sticks", x.flight(1, 40, 8, 2), 9);
        PeaTube y = Check.withTent("tube 12 bore 3; far 4; wind 1 left; pea p size 3 weight 1;");
        Check.yes(y, "-1 is no NONE", y.flight(0, 10, 0, 2), -1);
    }

    @Sentence(in = "Promise 19", says = "What becomes of it: 0 it flies, 1 it does not go in, 2 it STICKS, 3 it DROPS (2; 5).")
    private static void becomesWithin() {
        PeaTube x = fair();
        Edges.fine(x, "pea", 2, 0, 3, v -> x.becomes(v, 40, 0));
        Edges.fine(x, "puff", 5, 1, 40, v -> x.becomes(3, v, 0));
        Edges.fine(x, "spit", 5, 0, 20, v -> x.becomes(3, 40, v));
        Check.no(x, "2 ahead of 5", x.becomes(-1, 0, 0), 2);
        Check.yes(x, "flies", x.becomes(1, 3, 0), 0);
        Check.yes(x, "does not go in, whatever else", x.becomes(3, 1, 20), 1);
        Check.yes(x, "sticks, whatever the puff", x.becomes(1, 1, 8), 2);
        Check.yes(x, "drops", x.becomes(1, 2, 0), 3);
    }

    @Sentence(in = "Promise 20", says = "by a turn (1 right, -1 left, 0 none: without OFF), what 0: x, 1: y; STATUS tells NONE (2; 5: also a PUFF harder than the SHOOTER's; 9).")
    private static void strikesWithin() {
        PeaTube x = fair();
        Edges.fine(x, "shooter", 2, 0, 2, v -> x.strikes(v, 1, 20, 0, 0, 0, 0));
        Edges.within(x, "pea", 2, 0, 3, v -> x.strikes(0, v, 30, 0, 0, 0, 0));
        Edges.within(x, "puff of ann", 5, 1, 30, v -> x.strikes(0, 1, v, 0, 0, 0, 0));
        Edges.within(x, "puff of bob", 5, 1, 20, v -> x.strikes(1, 1, v, 0, 0, 0, 0));
        Edges.fine(x, "aim's x", 5, -60, 60, v -> x.strikes(0, 1, 30, v, 0, 0, 0));
        Edges.fine(x, "aim's y", 5, -60, 60, v -> x.strikes(0, 1, 30, 0, v, 0, 0));
        Edges.fine(x, "turn", 5, -1, 1, v -> x.strikes(0, 1, 30, 0, 0, v, 0));
        Edges.fine(x, "what", 5, 0, 1, v -> x.strikes(0, 1, 30, 0, 0, 0, v));
        Check.no(x, "2 ahead of 5", x.strikes(3, 1, 0, 0, 0, 0, 0), 2);
        Check.no(x, "5 ahead of 9", x.strikes(1, 3, 21, 0, 0, 0, 0), 5);
        Check.no(x, "does not go in", x.strikes(1, 3, 20, 0, 0, 0, 0), 9);
        Check.no(x, "drops", x.strikes(1, 1, 2, 0, 0, 0, 0), 9);
        Check.yes(x, "-1 is no NONE: x", x.strikes(0, 1, 30, 1, 0, 0, 0), -1);
        Check.yes(x, "-1 is no NONE: y", x.strikes(0, 1, 30, 0, -1, 0, 1), -1);
    }

    @Sentence(in = "Promise 20", says = "Where it STRIKES with the SPIT as it is, with an aim, the HAND still")
    private static void strikesWithTheSpitAsItIs() {
        PeaTube x = fair();
        for (int i = 0; i < 3; i++) {
            x.shoot(0, 1, 30, 0, 0, 0, 0, 0);
        }
        Check.no(x, "a wet one sticks at spit 3", x.strikes(0, 2, 30, 0, 0, 0, 0), 9);
        Check.yes(x, "the hand of one that shakes is still", x.strikes(2, 1, 30, 0, 0, 0, 0), 7 - 6);
        x.wipe();
        Check.yes(x, "a wet one at spit 0", x.strikes(0, 2, 30, 0, 0, 0, 1), -7);
        Check.yes(x, "the hand of one that shakes is still", x.strikes(2, 1, 30, 0, 0, 0, 0), 7 - 3);
    }

    @Sentence(in = "Promise 21", says = "POINTS of a place (-999 to 999 each) (5).")
    private static void pointsWithin() {
        PeaTube x = fair();
        Edges.fine(x, "x", 5, -999, 999, v -> x.points(v, 0));
        Edges.fine(x, "y", 5, -999, 999, v -> x.points(0, v));
        Check.yes(x, "none there", x.points(999, -999), 0);
        Check.yes(x, "some there", x.points(0, 0), 5);
    }

    @Sentence(in = "Promise 22", says = "The last RING told that reaches so far (-999 to 999 each) (5; 8: none).")
    private static void ringAtWithin() {
        PeaTube x = fair();
        Edges.within(x, "x", 5, -999, 999, v -> x.ringAt(v, 0));
        Edges.within(x, "y", 5, -999, 999, v -> x.ringAt(0, v));
        Check.yes(x, "the last one", x.ringAt(0, 5), 2);
        Check.yes(x, "the one ahead", x.ringAt(1, 5), 1);
        Check.yes(x, "the first one", x.ringAt(30, 0), 0);
        Check.no(x, "none", x.ringAt(30, 1), 8);
        Check.no(x, "none at the edge", x.ringAt(-999, 999), 8);
        Check.no(x, "5 ahead of 8", x.ringAt(-1000, 999), 5);
        PeaTube y = new PeaTube();
        Check.no(y, "without rings", y.ringAt(0, 0), 8);
    }

    @Sentence(in = "Promise 23", says = "How far a HAND shakes on a BEAT (2; 5).")
    private static void handWithin() {
        PeaTube x = fair();
        Edges.fine(x, "shooter", 2, 0, 2, v -> x.hand(v, 0));
        Edges.fine(x, "beat", 5, 0, 3, v -> x.hand(0, v));
        Check.no(x, "2 ahead of 5", x.hand(3, 4), 2);
    }

    @Sentence(in = "Promise 24", says = "The FRACTION is ODDS of so many POINTS (1 to 20) at least (2; 5: also a PUFF harder than the SHOOTER's).")
    private static void oddsWithin() {
        PeaTube x = straight();
        Edges.fine(x, "shooter", 2, 0, 3, v -> truth(x.odds(v, 0, 1, 0, 0, 0, 1)));
        Edges.fine(x, "pea", 2, 0, 2, v -> truth(x.odds(0, v, 1, 0, 0, 0, 1)));
        Edges.fine(x, "puff of shaky", 5, 1, 40, v -> truth(x.odds(0, 0, v, 0, 0, 0, 1)));
        Edges.fine(x, "puff of soft", 5, 1, 20, v -> truth(x.odds(2, 0, v, 0, 0, 0, 1)));
        Edges.fine(x, "puff of weak", 5, 1, 1, v -> truth(x.odds(3, 0, v, 0, 0, 0, 1)));
        Edges.fine(x, "beat", 5, 0, 3, v -> truth(x.odds(0, 0, 1, v, 0, 0, 1)));
        Edges.fine(x, "aim's x", 5, -60, 60, v -> truth(x.odds(0, 0, 1, 0, v, 0, 1)));
        Edges.fine(x, "aim's y", 5, -60, 60, v -> truth(x.odds(0, 0, 1, 0, 0, v, 1)));
        Edges.fine(x, "points", 5, 1, 20, v -> truth(x.odds(0, 0, 1, 0, 0, 0, v)));
        Check.no(x, "2 ahead of 5", x.odds(0, 3, 99, 0, 0, 0, 0), 2);
        Check.yes(x, "what does not go in", x.odds(1, 1, 40, 0, 0, 0, 1));
        Check.fraction(x, "what does not go in", 0, 1);
        PeaTube y = Check.withTent("tube 48 bore 3; far 4; ring 1 worth 20; pea p size 3 weight 1; shooter s puff 40 shake 0;");
        Check.yes(y, "odds of 20", y.odds(0, 0, 40, 0, 0, 0, 20));
        Check.fraction(y, "odds of 20", 1, 1);
    }

    @Sentence(in = "Promise 25", says = "The FRACTION is the MEAN of POINTS (2; 5).")
    private static void meanWithin() {
        PeaTube x = straight();
        Edges.fine(x, "shooter", 2, 0, 3, v -> truth(x.mean(v, 0, 1, 0, 0, 0)));
        Edges.fine(x, "pea", 2, 0, 2, v -> truth(x.mean(0, v, 1, 0, 0, 0)));
        Edges.fine(x, "puff of soft", 5, 1, 20, v -> truth(x.mean(2, 0, v, 0, 0, 0)));
        Edges.fine(x, "beat", 5, 0, 3, v -> truth(x.mean(0, 0, 1, v, 0, 0)));
        Edges.fine(x, "aim's x", 5, -60, 60, v -> truth(x.mean(0, 0, 1, 0, v, 0)));
        Edges.fine(x, "aim's y", 5, -60, 60, v -> truth(x.mean(0, 0, 1, 0, 0, v)));
        Check.no(x, "2 ahead of 5", x.mean(4, 0, 99, 0, 0, 0), 2);
        Check.yes(x, "what does not go in", x.mean(1, 1, 40, 0, 0, 0));
        Check.fraction(x, "what does not go in", 0, 1);
    }

    @Sentence(in = "Promise 26", says = "BEST AIM, what 0: x, 1: y; the FRACTION is its MEAN; STATUS tells NONE (2; 5).")
    private static void bestAimWithin() {
        PeaTube x = straight();
        Edges.fine(x, "shooter", 2, 0, 3, v -> x.bestAim(v, 0, 1, 0, 0));
        Edges.fine(x, "pea", 2, 0, 2, v -> x.bestAim(0, v, 1, 0, 0));
        Edges.fine(x, "puff of soft", 5, 1, 20, v -> x.bestAim(2, 0, v, 0, 0));
        Edges.fine(x, "beat", 5, 0, 3, v -> x.bestAim(0, 0, 1, v, 0));
        Edges.fine(x, "what", 5, 0, 1, v -> x.bestAim(0, 0, 40, 0, v));
        Check.no(x, "2 ahead of 5", x.bestAim(0, 3, 99, 0, 9), 2);
        Check.yes(x, "-1 is no NONE: x", x.bestAim(1, 0, 40, 0, 0), -1);
        Check.fraction(x, "its mean", 7, 1);
        PeaTube y = Check.withTent("tube 48 bore 3; far 4; ring 1 worth 7; pea p size 3 weight 1; shooter s puff 40 shake 0 lean 0 1; shooter t puff 40 shake 1 lean 9 1;");
        Check.yes(y, "-1 is no NONE: y", y.bestAim(0, 0, 40, 0, 1), -1);
        Check.yes(y, "x of one that leans", y.bestAim(1, 0, 40, 0, 0), -9);
        Check.fraction(y, "its mean", 35, 9);
    }

    @Sentence(in = "Promise 27", says = "BEST PUFF; the FRACTION is its MEAN (2; 5).")
    private static void bestPuffWithin() {
        PeaTube x = straight();
        Edges.fine(x, "shooter", 2, 0, 3, v -> x.bestPuff(v, 0, 0, 0, 0));
        Edges.fine(x, "pea", 2, 0, 2, v -> x.bestPuff(0, v, 0, 0, 0));
        Edges.fine(x, "beat", 5, 0, 3, v -> x.bestPuff(0, 0, v, 0, 0));
        Edges.fine(x, "aim's x", 5, -60, 60, v -> x.bestPuff(0, 0, 0, v, 0));
        Edges.fine(x, "aim's y", 5, -60, 60, v -> x.bestPuff(0, 0, 0, 0, v));
        Check.no(x, "2 ahead of 5", x.bestPuff(0, 3, 9, 0, 0), 2);
        Check.yes(x, "none goes in", x.bestPuff(0, 1, 0, 0, 0), 1);
        Check.fraction(x, "none goes in", 0, 1);
        // PACE 96: TIME 10, DROP 1; with PUFF 1 PACE 48: TIME 20, DROP 6
        Check.yes(x, "2 is enough", x.bestPuff(1, 0, 0, 0, 0), 2);
        Check.fraction(x, "2 is enough", 7, 1);
    }

    @Sentence(in = "Promise 28", says = "BEST BEAT; the FRACTION is its MEAN (2; 5).")
    private static void bestBeatWithin() {
        PeaTube x = straight();
        Edges.fine(x, "shooter", 2, 0, 3, v -> x.bestBeat(v, 0, 1, 0, 0));
        Edges.fine(x, "pea", 2, 0, 2, v -> x.bestBeat(0, v, 1, 0, 0));
        Edges.fine(x, "puff of soft", 5, 1, 20, v -> x.bestBeat(2, 0, v, 0, 0));
        Edges.fine(x, "aim's x", 5, -60, 60, v -> x.bestBeat(0, 0, 1, v, 0));
        Edges.fine(x, "aim's y", 5, -60, 60, v -> x.bestBeat(0, 0, 1, 0, v));
        Check.no(x, "2 ahead of 5", x.bestBeat(4, 0, 0, 0, 0), 2);
        Check.yes(x, "none goes in", x.bestBeat(0, 1, 40, 0, 0), 0);
        Check.fraction(x, "none goes in", 0, 1);
        Check.yes(x, "3", x.bestBeat(0, 0, 40, 0, 0), 3);
        Check.fraction(x, "3", 7, 1);
    }

    @Sentence(in = "Promise 29", says = "LONGEST; the FRACTION is its MEAN (2; 5).")
    private static void longestWithin() {
        PeaTube x = straight();
        Edges.fine(x, "shooter", 2, 0, 3, v -> x.longest(v, 0, 1, 0, 0, 0));
        Edges.fine(x, "pea", 2, 0, 2, v -> x.longest(0, v, 1, 0, 0, 0));
        Edges.fine(x, "puff of soft", 5, 1, 20, v -> x.longest(2, 0, v, 0, 0, 0));
        Edges.fine(x, "beat", 5, 0, 3, v -> x.longest(0, 0, 1, v, 0, 0));
        Edges.fine(x, "aim's x", 5, -60, 60, v -> x.longest(0, 0, 1, 0, v, 0));
        Edges.fine(x, "aim's y", 5, -60, 60, v -> x.longest(0, 0, 1, 0, 0, v));
        Check.no(x, "2 ahead of 5", x.longest(0, 3, 99, 0, 0, 0), 2);
        Check.yes(x, "none goes in", x.longest(0, 1, 40, 0, 0, 0), 12);
        Check.fraction(x, "none goes in", 0, 1);
        Check.yes(x, "the least of all", x.longest(1, 0, 40, 0, 0, 0), 12);
        Check.fraction(x, "the least of all", 7, 1);
    }

    @Sentence(in = "Promise 30", says = "The PEA with the greatest MEAN (0, 0 as aim), of several the first; the FRACTION is that (2; 5; 8: no PEAS).")
    private static void bestPeaWithin() {
        PeaTube x = straight();
        Edges.fine(x, "shooter", 2, 0, 3, v -> x.bestPea(v, 1, 0));
        Edges.fine(x, "puff of shaky", 5, 1, 40, v -> x.bestPea(0, v, 0));
        Edges.fine(x, "puff of weak", 5, 1, 1, v -> x.bestPea(3, v, 0));
        Edges.fine(x, "beat", 5, 0, 3, v -> x.bestPea(0, 40, v));
        Check.no(x, "2 ahead of 5", x.bestPea(4, 99, 9), 2);
        Check.yes(x, "of two the first", x.bestPea(1, 40, 0), 0);
        Check.fraction(x, "of two the first", 7, 1);
        PeaTube w = Check.withTent("tube 48 bore 3; far 4; ring 2 worth 3; ring 1 worth 7; pea fat size 4 weight 1; pea p size 3 weight 1;"
            + "shooter right puff 40 shake 0 lean 2 0; shooter up puff 40 shake 0 lean 0 2;");
        for (int shooter = 0; shooter < 2; shooter++) {
            Check.yes(w, "0, 0 as aim", w.bestPea(shooter, 40, 0), 1);
            Check.fraction(w, "0, 0 as aim: 2 aside", 3, 1);
        }
        PeaTube y = Check.withTent("ring 60 worth 1; shooter s puff 40 shake 0;");
        Check.no(y, "no peas", y.bestPea(0, 40, 0), 8);
        Check.no(y, "5 ahead of 8", y.bestPea(0, 41, 0), 5);
        Check.no(y, "2 ahead of 8", y.bestPea(1, 40, 0), 2);
        PeaTube z = Check.withTent("ring 60 worth 1; shooter s puff 40 shake 0; pea a size 9 weight 1; pea b size 9 weight 1;");
        Check.yes(z, "none goes in: the first", z.bestPea(0, 40, 0), 0);
        Check.fraction(z, "none goes in", 0, 1);
        Check.tent(z, "ring 60 worth 1; shooter s puff 40 shake 0; pea a size 9 weight 1; pea b size 8 weight 1;");
        Check.yes(z, "the last alone goes in", z.bestPea(0, 40, 0), 1);
        Check.fraction(z, "the last alone goes in", 1, 1);
    }

    @Sentence(in = "Promise 31", says = "The FRACTION is all MEANS of n SHOTS (1 to 30), wiped behind each k-th (1 to 30), on BEAT 2, together (2; 5).")
    private static void seriesWithin() {
        PeaTube x = straight();
        Edges.fine(x, "shooter", 2, 0, 3, v -> truth(x.series(v, 0, 1, 0, 0, 1, 1)));
        Edges.fine(x, "pea", 2, 0, 2, v -> truth(x.series(0, v, 1, 0, 0, 1, 1)));
        Edges.fine(x, "puff of soft", 5, 1, 20, v -> truth(x.series(2, 0, v, 0, 0, 1, 1)));
        Edges.fine(x, "aim's x", 5, -60, 60, v -> truth(x.series(0, 0, 1, v, 0, 1, 1)));
        Edges.fine(x, "aim's y", 5, -60, 60, v -> truth(x.series(0, 0, 1, 0, v, 1, 1)));
        Edges.fine(x, "n", 5, 1, 30, v -> truth(x.series(0, 0, 1, 0, 0, v, 1)));
        Edges.fine(x, "k", 5, 1, 30, v -> truth(x.series(0, 0, 1, 0, 0, 1, v)));
        Check.no(x, "2 ahead of 5", x.series(0, 3, 99, 0, 0, 0, 0), 2);
        int[][] due = {{1, 1, 7}, {1, 30, 7}, {30, 1, 210}, {30, 8, 210}, {30, 30, 56}, {8, 30, 56}, {9, 8, 63}, {9, 9, 56}, {10, 9, 63}, {30, 9, 27 * 7}};
        for (int[] row : due) {
            Check.yes(x, "series", x.series(1, 0, 40, 0, 0, row[0], row[1]));
            Check.fraction(x, "series of " + row[0] + " wiped behind each " + row[1], row[2], 1);
        }
        Check.yes(x, "series", x.series(1, 2, 40, 0, 0, 30, 4));
        Check.fraction(x, "of wet ones each fourth sticks", (30 - 7) * 7, 1);
        Check.yes(x, "series", x.series(2, 0, 20, 0, 0, 1, 1));
        Check.fraction(x, "on BEAT 2 soft shakes by 1", 47, 9);
        Check.yes(x, "series", x.series(1, 1, 40, 0, 0, 30, 30));
        Check.fraction(x, "none goes in", 0, 1);
    }

    @Sentence(in = "Promise 32", says = "WIPE EVERY: k, if each WIPE costs c sixteenths (0 to 99); a WIPE behind the last SHOT costs, too (2; 5).")
    private static void wipeEveryWithin() {
        PeaTube x = straight();
        Edges.fine(x, "shooter", 2, 0, 3, v -> x.wipeEvery(v, 0, 1, 1, 0));
        Edges.fine(x, "pea", 2, 0, 2, v -> x.wipeEvery(0, v, 1, 1, 0));
        Edges.fine(x, "puff of soft", 5, 1, 20, v -> x.wipeEvery(2, 0, v, 1, 0));
        Edges.fine(x, "n", 5, 1, 30, v -> x.wipeEvery(0, 0, 1, v, 0));
        Edges.fine(x, "c", 5, 0, 99, v -> x.wipeEvery(0, 0, 1, 1, v));
        Check.no(x, "2 ahead of 5", x.wipeEvery(4, 0, 99, 0, -1), 2);
        Check.yes(x, "one shot, no cost", x.wipeEvery(1, 0, 40, 1, 0), 1);
        Check.yes(x, "one shot: wiped behind it costs", x.wipeEvery(1, 0, 40, 1, 1), 2);
        Check.yes(x, "eight shots: wiped behind the eighth costs", x.wipeEvery(1, 0, 40, 8, 1), 9);
        Check.yes(x, "seven shots: 8 is enough", x.wipeEvery(1, 0, 40, 7, 1), 8);
        Check.yes(x, "the least cost", x.wipeEvery(1, 0, 40, 30, 0), 1);
        Check.yes(x, "the greatest cost: three wipes, where 9 would lose three shots", x.wipeEvery(1, 0, 40, 30, 99), 8);
    }

    @Sentence(in = "Promise 33", says = "The FRACTION is ODDS in TURNS of so many SHOTS, what 0: the first has more, 1: both have as many, 2: the second has more (2: PEAS, too; 5).")
    private static void turnsWithin() {
        PeaTube x = straight();
        Edges.fine(x, "first", 2, 0, 3, v -> truth(x.turns(v, 0, 0, 0, 1, 0)));
        Edges.fine(x, "second", 2, 0, 3, v -> truth(x.turns(0, 0, v, 0, 1, 0)));
        Edges.fine(x, "pea of the first", 2, 0, 2, v -> truth(x.turns(0, v, 0, 0, 1, 0)));
        Edges.fine(x, "pea of the second", 2, 0, 2, v -> truth(x.turns(0, 0, 0, v, 1, 0)));
        Edges.fine(x, "shots", 5, 1, 5, v -> truth(x.turns(0, 0, 1, 0, v, 0)));
        Edges.fine(x, "what", 5, 0, 2, v -> truth(x.turns(0, 0, 1, 0, 1, v)));
        Check.no(x, "2 ahead of 5", x.turns(0, 0, 0, 3, 0, 3), 2);
        long[][] due = {{0, 1}, {5, 9}, {4, 9}, {0, 1}, {3125, 59049}, {59049 - 3125, 59049}};
        for (int i = 0; i < 6; i++) {
            Check.yes(x, "turns", x.turns(0, 0, 1, 0, i < 3 ? 1 : 5, i % 3));
            Check.fraction(x, "turns of " + (i < 3 ? 1 : 5) + ", " + i % 3, due[i][0], due[i][1]);
        }
        Check.yes(x, "turns", x.turns(1, 1, 1, 0, 1, 2));
        Check.fraction(x, "one that does not go in against one that does", 1, 1);
    }

    private static void row(PeaTube x, int tray, long... numbers) {
        x.tray(tray, 3, numbers.length);
        for (int i = 0; i < numbers.length; i++) {
            x.write(tray, i, numbers[i]);
        }
    }

    @Sentence(in = "Promise 34", says = "The FRACTION is ODDS that the k-th (0 to 3) of four wins the KNOCK (numbers of SHOOTERS in a TRAY, the same PEA for all)")
    private static void knockOfFour() {
        PeaTube x = straight();
        for (int tray = 0; tray < 4; tray++) {
            row(x, tray, 0, 0, 0, 0);
        }
        Edges.fine(x, "tray", 1, 0, 3, v -> truth(x.knock(v, 0, 0)));
        Edges.fine(x, "k", 5, 0, 3, v -> truth(x.knock(0, 0, v)));
        row(x, 1, 0, 0, 0, 0, 99, -1);
        Check.yes(x, "what is behind four is not asked", x.knock(1, 0, 3));
        Check.fraction(x, "four alike", 1, 4);
        long tops = 0;
        row(x, 2, 0, 2, 1, 0);
        for (int k = 0; k < 4; k++) {
            Check.yes(x, "knock", x.knock(2, 0, k));
            Check.fraction(x, "the still one wins all, " + k, k == 2 ? 1 : 0, 1);
            tops += x.top();
        }
        Check.due("one of them wins", tops, 1);
    }

    @Sentence(in = "Promise 34", says = "(1; 2: the PEA, or a number that is no SHOOTER; 3; 4; 5: k; 9: two that are alike for ever; asked as 1, 3, 4, 2, 5, 9)")
    private static void knockIsAskedInThisOrder() {
        PeaTube x = straight();
        row(x, 0, 0, 0, 0);
        row(x, 1, 1, 1, 0, 4);
        row(x, 2, 1, 1, 0, 0);
        Check.no(x, "1", x.knock(-1, 9, 9), 1);
        Check.no(x, "1", x.knock(4, 9, 9), 1);
        Check.no(x, "3 ahead of 2", x.knock(3, 9, 9), 3);
        Check.no(x, "4 ahead of 2: three numbers", x.knock(0, 9, 9), 4);
        Check.no(x, "2 ahead of 5: the pea", x.knock(2, 3, 9), 2);
        Check.no(x, "2 ahead of 5: the pea", x.knock(2, -1, 9), 2);
        Check.no(x, "2 ahead of 5: a number that is no shooter", x.knock(1, 0, 9), 2);
        for (int i = 0; i < 4; i++) {
            for (long no : new long[] {-1, 4, 1L << 32, Long.MIN_VALUE, Long.MAX_VALUE}) {
                row(x, 1, 0, 0, 0, 0);
                x.write(1, i, no);
                Check.no(x, "2: no shooter " + no, x.knock(1, 0, 0), 2);
            }
        }
        Check.no(x, "5 ahead of 9", x.knock(2, 0, 4), 5);
        Check.no(x, "5 ahead of 9", x.knock(2, 0, -1), 5);
        Check.no(x, "9", x.knock(2, 0, 0), 9);
    }

    public static void main(String[] args) throws Exception {
        Sentences.test(Promises17To34Test.class);
    }
}
