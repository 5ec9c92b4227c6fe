/** The edges that promises 35 to 47 name: HOLES, SHOTS by hand, ROUNDS, MARKS. */
public final class Promises35To47Test {
    /** TIME 1 to 4 with a PUFF of 20 and more, DROP 0: it STRIKES where it is aimed at, as long as SPIT is below 8. */
    private static final String STRAIGHT = "tube 48 bore 3; far 4; ring 2 worth 3; ring 1 worth 7;"
        + "pea p size 3 weight 1; pea fat size 4 weight 1; pea wetty size 3 weight 1 wet;"
        + "shooter shaky puff 40 shake 1; shooter still puff 40 shake 0; shooter soft puff 20 shake 6; shooter weak puff 1 shake 0;";

    private static long truth(boolean got) {
        return Edges.truth(got);
    }

    private static PeaTube straight() {
        return Check.withTent(STRAIGHT);
    }

    private static PeaTube withRound(String round) {
        PeaTube x = straight();
        Check.due("round is taken: " + round, Check.round(x, round) >= 0, true);
        return x;
    }

    /** As hard as can be: strikes there for sure, but by the weak one. */
    private static void strike(PeaTube x, int shooter, int pea, int toX, int toY) {
        int holes = x.many(8);
        x.wipe();
        x.shoot(shooter, pea, x.shooter(shooter, 0), toX, toY, 0, 0, 0);
        Check.due("a hole more", x.many(8), holes + 1);
    }

    @Sentence(in = "Promise 35", says = "Of the k-th HOLE, what 0: x, 1: y (STATUS tells NONE), 2: the SHOOTER, 3: the PEA (5; 8: none such).")
    private static void holeWithin() {
        PeaTube x = straight();
        Check.no(x, "the first of none", x.hole(0, 0), 8);
        strike(x, 1, 2, -1, 60);
        Edges.fine(x, "k of one", 8, 0, 0, v -> x.hole(v, 0));
        strike(x, 0, 0, -60, -1);
        Edges.fine(x, "k of two", 8, 0, 1, v -> x.hole(v, 0));
        Edges.fine(x, "what", 5, 0, 3, v -> x.hole(1, v));
        Check.no(x, "5 ahead of 8", x.hole(2, 4), 5);
        Check.yes(x, "-1 is no NONE: x", x.hole(0, 0), -1);
        Check.yes(x, "-1 is no NONE: y", x.hole(1, 1), -1);
        Check.yes(x, "the shooter", x.hole(0, 2), 1);
        Check.yes(x, "the pea", x.hole(0, 3), 2);
    }

    @Sentence(in = "Promise 36", says = "The FRACTION is LEAN of HOLES of a SHOOTER and a PEA (NONE: of any), what 0: x, 1: y, 2: SPREAD (2; 5; 8: no HOLES).")
    private static void leanWithin() {
        PeaTube x = straight();
        Check.no(x, "no holes", x.lean(-1, -1, 0), 8);
        Check.no(x, "5 ahead of 8", x.lean(-1, -1, 3), 5);
        Check.no(x, "2 ahead of 5", x.lean(4, -1, 3), 2);
        for (int shooter = 0; shooter < 3; shooter++) {
            strike(x, shooter, shooter < 2 ? 0 : 2, shooter, -shooter);
        }
        Edges.within(x, "shooter", 2, -1, 3, v -> truth(x.lean(v, -1, 0)));
        Edges.within(x, "pea", 2, -1, 2, v -> truth(x.lean(-1, v, 0)));
        Edges.fine(x, "what", 5, 0, 2, v -> truth(x.lean(-1, -1, v)));
        Check.yes(x, "of any", x.lean(-1, -1, 0));
        Check.fraction(x, "of any", 1, 1);
        Check.yes(x, "of a shooter", x.lean(1, -1, 1));
        Check.fraction(x, "of a shooter", -1, 1);
        Check.yes(x, "of a pea", x.lean(-1, 0, 0));
        Check.fraction(x, "of a pea", 1, 2);
        Check.yes(x, "spread of a pea", x.lean(-1, 0, 2));
        Check.fraction(x, "spread of a pea", 1, 2);
        Check.no(x, "a shooter without holes", x.lean(3, -1, 0), 8);
        Check.no(x, "a pea without holes", x.lean(-1, 1, 0), 8);
        Check.no(x, "a couple without holes", x.lean(0, 2, 0), 8);
    }

    @Sentence(in = "Promise 37", says = "WHOSE (-99 to 99 each) (5; 8: no HOLES).")
    private static void whoseWithin() {
        PeaTube x = straight();
        Check.no(x, "no holes", x.whose(99, -99), 8);
        Check.no(x, "5 ahead of 8", x.whose(100, -99), 5);
        strike(x, 2, 0, 0, 0);
        Edges.fine(x, "x", 5, -99, 99, v -> x.whose(v, 0));
        Edges.fine(x, "y", 5, -99, 99, v -> x.whose(0, v));
        PeaTube y = new PeaTube();
        Check.no(y, "no shooters", y.whose(0, 0), 8);
    }

    @Sentence(in = "Promise 38", says = "WORST (5; 8: no HOLES).")
    private static void worstWithin() {
        PeaTube x = straight();
        Check.no(x, "no holes: shooters", x.worst(0), 8);
        Check.no(x, "no holes: peas", x.worst(1), 8);
        Check.no(x, "5 ahead of 8", x.worst(2), 5);
        strike(x, 3, 0, 0, 0);
        Check.yes(x, "the last shooter", x.worst(0), 3);
        Check.yes(x, "the first pea", x.worst(1), 0);
        strike(x, 2, 2, 0, 0);
        Edges.fine(x, "what", 5, 0, 1, v -> x.worst(v));
        Check.yes(x, "the first shooter with holes", x.worst(0), 2);
        strike(x, 2, 2, 4, 0);
        Check.yes(x, "the last pea", x.worst(1), 2);
    }

    @Sentence(in = "Promise 39", says = "SIEVE (5).")
    private static void sieveWithin() {
        PeaTube x = straight();
        Edges.fine(x, "wide", 5, 1, 12, v -> x.sieve(v));
        Check.yes(x, "2: none", x.sieve(2), 0);
        Check.yes(x, "3", x.sieve(3), 5);
        Check.yes(x, "4: all", x.sieve(4), 7);
    }

    @Sentence(in = "Promise 40", says = "SAME.")
    private static void sameOfNoneAndOfOne() {
        PeaTube x = straight();
        Check.yes(x, "no holes", x.same(), 0);
        strike(x, 1, 0, 5, 5);
        Check.yes(x, "one hole", x.same(), 0);
        strike(x, 0, 2, 5, 5);
        Check.yes(x, "two in one place, whoever, whichever pea", x.same(), 1);
        strike(x, 0, 2, 5, -5);
        Check.yes(x, "one elsewhere", x.same(), 1);
    }

    @Sentence(in = "Promise 41", says = "A SHOT that STRIKES as strikes() tells with a HAND (-6 to 6 each) more: its POINTS; SPIT and the score become more (2; 5; 7: 60 HOLES; 9).")
    private static void shootWithin() {
        Edges.fine(straightWiped(), "shooter", 2, 0, 3, v -> shot(v, 0, 1, 0, 0, 0, 0, 0));
        Edges.within(straightWiped(), "pea", 2, 0, 2, v -> shot(0, v, 1, 0, 0, 0, 0, 0));
        Edges.fine(straightWiped(), "puff of shaky", 5, 1, 40, v -> shot(0, 0, v, 0, 0, 0, 0, 0));
        Edges.fine(straightWiped(), "puff of soft", 5, 1, 20, v -> shot(2, 0, v, 0, 0, 0, 0, 0));
        Edges.fine(straightWiped(), "puff of weak", 5, 1, 1, v -> shot(3, 0, v, 0, 0, 0, 0, 0));
        Edges.fine(straightWiped(), "aim's x", 5, -60, 60, v -> shot(0, 0, 40, v, 0, 0, 0, 0));
        Edges.fine(straightWiped(), "aim's y", 5, -60, 60, v -> shot(0, 0, 40, 0, v, 0, 0, 0));
        Edges.fine(straightWiped(), "turn", 5, -1, 1, v -> shot(0, 0, 40, 0, 0, v, 0, 0));
        Edges.fine(straightWiped(), "hand's x", 5, -6, 6, v -> shot(1, 0, 40, 0, 0, 0, v, 0));
        Edges.fine(straightWiped(), "hand's y", 5, -6, 6, v -> shot(1, 0, 40, 0, 0, 0, 0, v));
        PeaTube x = straight();
        Check.no(x, "2 ahead of 5", x.shoot(0, 3, 99, 0, 0, 0, 0, 0), 2);
        Check.no(x, "5 ahead of 9", x.shoot(0, 1, 41, 0, 0, 0, 0, 0), 5);
        Check.no(x, "does not go in", x.shoot(0, 1, 40, 0, 0, 0, 0, 0), 9);
        Check.no(x, "a hand of 7 ahead of 9", x.shoot(0, 1, 40, 0, 0, 0, 7, 0), 5);
        Check.yes(x, "no points", x.shoot(1, 0, 40, 2, 1, 0, 0, 0), 0);
        Check.yes(x, "3 points", x.shoot(1, 0, 40, 2, 1, 0, 0, -1), 3);
        Check.yes(x, "7 points", x.shoot(1, 0, 40, 2, 1, 0, -2, -1), 7);
        Check.yes(x, "score", x.shooter(1, 4), 10);
        Check.yes(x, "spit", x.many(7), 3);
        Check.no(x, "a wet one sticks", x.shoot(1, 2, 40, 0, 0, 0, 0, 0), 9);
        Check.no(x, "one drops", x.shoot(3, 0, 1, 0, 0, 0, 0, 0), 9);
        Check.yes(x, "score", x.shooter(1, 4), 10);
        Check.yes(x, "spit", x.many(7), 3);
        Check.yes(x, "holes", x.many(8), 3);
    }

    private static PeaTube wiped;

    private static PeaTube straightWiped() {
        wiped = straight();
        return wiped;
    }

    /** A SHOT with SPIT 0; what it leaves of SPIT is wiped by the next one. */
    private static long shot(int shooter, int pea, int puff, int x, int y, int turn, int handX, int handY) {
        wiped.wipe();
        return wiped.shoot(shooter, pea, puff, x, y, turn, handX, handY);
    }

    @Sentence(in = "Promise 41", says = "7: 60 HOLES")
    private static void shootAt60Holes() {
        PeaTube x = straight();
        for (int i = 0; i < 60; i++) {
            strike(x, 1, 0, 9, 9);
        }
        x.wipe();
        Check.no(x, "the 61st", x.shoot(1, 0, 40, 0, 0, 0, 0, 0), 7);
        Check.no(x, "7 ahead of 9", x.shoot(1, 1, 40, 0, 0, 0, 0, 0), 7);
        Check.no(x, "2 ahead of 7", x.shoot(4, 1, 40, 0, 0, 0, 0, 0), 2);
        Check.no(x, "5 ahead of 7", x.shoot(1, 0, 41, 0, 0, 0, 0, 0), 5);
        Check.yes(x, "spit", x.many(7), 0);
        Check.yes(x, "score", x.shooter(1, 4), 0);
        Check.yes(x, "holes", x.many(8), 60);
        Check.tent(x, STRAIGHT);
        Check.yes(x, "in a new tent", x.shoot(1, 0, 40, 0, 0, 0, 0, 0), 7);
    }

    @Sentence(in = "Promise 42", says = "WIPE: how much SPIT there was.")
    private static void wipeOfNoneAndOfTheMost() {
        PeaTube x = straight();
        Check.yes(x, "none", x.wipe(), 0);
        for (int spit = 1; spit <= 8; spit++) {
            x.shoot(1, 0, 40, 0, 0, 0, 0, 0);
        }
        Check.no(x, "sticks", x.shoot(1, 0, 40, 0, 0, 0, 0, 0), 9);
        Check.yes(x, "the most there can be", x.wipe(), 8);
        Check.yes(x, "none is left", x.wipe(), 0);
        Check.yes(x, "holes are left", x.many(8), 8);
        PeaTube y = new PeaTube();
        Check.yes(y, "without a tent", y.wipe(), 0);
    }

    @Sentence(in = "Promise 43", says = "SHOT by a seed: how many STEPS were done (5; 8: no ROUND).")
    private static void playWithin() {
        PeaTube x = straight();
        Check.no(x, "no round", x.play(0), 8);
        Check.no(x, "5 ahead of 8", x.play(-1), 5);
        Check.no(x, "5 ahead of 8", x.play(10000), 5);
        Check.round(x, "wipe; stop; wipe;");
        Edges.fine(x, "seed", 5, 0, 9999, v -> x.play(v));
        Check.yes(x, "stop counts, what is behind does not", x.play(0), 2);
        Check.yes(x, "a round of no steps", x.round(0), 0);
        Check.yes(x, "is one", x.play(0), 0);
        PeaTube y = withRound("loop 99; wipe; wipe; wipe; wipe; end;");
        Check.yes(y, "the most", y.play(0), 300);
    }

    private static void told(PeaTube x, int... due) {
        for (int what = 0; what < 5; what++) {
            Check.yes(x, "played(" + what + ")", x.played(what), due[what]);
        }
    }

    @Sentence(in = "Promise 44", says = "Of play() latest with STATUS 0, what 0: MISSED, 1: SHOTS that flew, 2: that DROPPED or STUCK, 3: POINTS of all")
    private static void playedOfTheLatestWithStatus0() {
        PeaTube x = withRound("shoot still; load fat; shoot still; load wetty; loop 3; shoot still; end; puff 1; wipe; load p; shoot soft; shoot weak;");
        Check.yes(x, "play", x.play(3), 13);
        // two wet ones stick behind the first SHOT's SPIT 1 and 2; weak with SPIT 1 has PACE 24
        told(x, 1, 5, 1, 21, 0);
        Check.no(x, "a play that is refused", x.play(10000), 5);
        told(x, 1, 5, 1, 21, 0);
        Check.yes(x, "wins", x.wins(1, 0, 20));
        told(x, 1, 5, 1, 21, 0);
        Check.tent(x, STRAIGHT);
        Check.no(x, "a play without a round", x.play(0), 8);
        told(x, 1, 5, 1, 21, 0);
        Check.round(x, "");
        Check.yes(x, "play", x.play(0), 0);
        told(x, 0, 0, 0, 0, 0);
    }

    @Sentence(in = "Promise 44", says = "4: 1 if a STEP was left to be done (by the 300 alone, not by stop), else 0 (5; 8: there was none).")
    private static void playedWithin() {
        PeaTube x = withRound("loop 99; wipe; wipe; wipe; end;");
        Check.no(x, "there was none", x.played(0), 8);
        Check.no(x, "5 ahead of 8", x.played(5), 5);
        Check.no(x, "5 ahead of 8", x.played(-1), 5);
        Check.yes(x, "wins is no play", x.wins(0, 0, 1));
        Check.no(x, "there was none", x.played(4), 8);
        Check.yes(x, "play of 298", x.play(0), 298);
        Edges.fine(x, "what", 5, 0, 4, v -> x.played(v));
        Check.yes(x, "none left", x.played(4), 0);
        int[][] due = {{2, 0}, {3, 1}, {4, 1}};
        for (int[] row : due) {
            Check.round(x, "loop 99; wipe; wipe; wipe; end;" + "next;".repeat(row[0]));
            Check.yes(x, "play with " + row[0] + " more", x.play(0), 300);
            Check.yes(x, "left", x.played(4), row[1]);
        }
        Check.round(x, "loop 99; wipe; wipe; wipe; end; stop; next; next; next;");
        Check.yes(x, "play to a stop", x.play(0), 299);
        Check.yes(x, "left by stop", x.played(4), 0);
        Check.round(x, "loop 99; wipe; wipe; wipe; end; next; stop; next;");
        Check.yes(x, "play to a stop at the 300th", x.play(0), 300);
        Check.yes(x, "left by stop", x.played(4), 0);
    }

    @Sentence(in = "Promise 45", says = "a SHOOTER has the most POINTS of all SHOOTERS in the end, alone (what there was ahead counts, too; all stays as it is)")
    private static void winsAloneWithWhatThereWas() {
        PeaTube x = withRound("shoot still;");
        Check.yes(x, "wins", x.wins(1, 0, 20));
        Check.fraction(x, "alone", 1, 1);
        Check.yes(x, "wins", x.wins(2, 0, 20));
        Check.fraction(x, "less", 0, 1);
        x.shoot(2, 0, 20, 0, 0, 0, 0, 0);
        Check.yes(x, "wins", x.wins(1, 0, 20));
        Check.fraction(x, "as many: not alone", 0, 1);
        Check.yes(x, "wins", x.wins(2, 0, 20));
        Check.fraction(x, "as many: not alone", 0, 1);
        Check.yes(x, "spit stays", x.many(7), 1);
        Check.yes(x, "holes stay", x.many(8), 1);
        Check.yes(x, "scores stay", x.shooter(1, 4), 0);
        Check.no(x, "no play", x.played(0), 8);
        x.shoot(1, 0, 40, 2, 0, 0, 0, 0);
        Check.yes(x, "wins", x.wins(1, 0, 20));
        Check.fraction(x, "3 ahead and 7", 1, 1);
        strike(x, 0, 0, 0, 0);
        x.wipe();
        Check.yes(x, "wins", x.wins(1, 0, 1));
        Check.fraction(x, "10 against the first one's 7", 1, 1);
        strike(x, 0, 0, 1, 1);
        x.wipe();
        Check.yes(x, "wins", x.wins(1, 0, 1));
        Check.fraction(x, "10 against the first one's 10", 0, 1);
        Check.tent(x, "shooter a puff 1 shake 0;");
        Check.round(x, "");
        Check.yes(x, "wins", x.wins(0, 0, 1));
        Check.fraction(x, "one of one is alone", 1, 1);
        Check.tent(x, "shooter a puff 1 shake 0; shooter b puff 1 shake 0;");
        Check.round(x, "");
        Check.yes(x, "wins", x.wins(0, 0, 1));
        Check.fraction(x, "two with none", 0, 1);
    }

    @Sentence(in = "Promise 45", says = "The FRACTION is behind how many of so many seeds (1 to 20) from one on")
    private static void winsFromOneSeedOn() {
        // soft must have 7 against 3 for sure: it is drawn -6 to 6 by 13
        PeaTube x = withRound("shoot soft; wipe; aim 2 0; shoot still;");
        for (int seed : new int[] {0, 500, 9980}) {
            int won = 0;
            for (int i = 0; i < 20; i++) {
                int s = ((seed + i) * 2851 + 11027) % 65536;
                int handX = s / 8 % 13 - 6;
                int handY = (int) ((s * 2851L + 11027) % 65536) / 8 % 13 - 6;
                won += handX * handX + handY * handY <= 1 ? 1 : 0;
                Check.yes(x, "wins of one", x.wins(2, seed + i, 1));
                Check.fraction(x, "seed " + (seed + i), handX * handX + handY * handY <= 1 ? 1 : 0, 1);
            }
            Check.yes(x, "wins of 20", x.wins(2, seed, 20));
            Check.due("wins of 20 from " + seed, x.top() * 20, won * x.bottom());
        }
    }

    @Sentence(in = "Promise 45", says = "(2; 5: the last above 9,999, too; 8)")
    private static void winsWithin() {
        PeaTube x = straight();
        Check.no(x, "no round", x.wins(0, 0, 1), 8);
        Check.no(x, "5 ahead of 8", x.wins(0, -1, 1), 5);
        Check.no(x, "2 ahead of 5", x.wins(4, -1, 0), 2);
        Check.round(x, "shoot still;");
        Edges.fine(x, "shooter", 2, 0, 3, v -> truth(x.wins(v, 0, 1)));
        Edges.fine(x, "seed of 1", 5, 0, 9999, v -> truth(x.wins(0, v, 1)));
        Edges.fine(x, "seed of 20", 5, 0, 9980, v -> truth(x.wins(0, v, 20)));
        Edges.fine(x, "seeds from 0", 5, 1, 20, v -> truth(x.wins(0, 0, v)));
        Edges.fine(x, "seeds from 9990", 5, 1, 10, v -> truth(x.wins(0, 9990, v)));
        Edges.fine(x, "seeds from 9999", 5, 1, 1, v -> truth(x.wins(0, 9999, v)));
    }

    @Sentence(in = "Promise 46", says = "A MARK more: how many there are (7).")
    private static void marksUpTo3() {
        PeaTube x = new PeaTube();
        for (int i = 1; i <= 3; i++) {
            Check.yes(x, "mark", x.mark(), i);
        }
        Check.no(x, "a fourth", x.mark(), 7);
        Check.no(x, "and again", x.mark(), 7);
        Check.yes(x, "back", x.back(), 2);
        Check.yes(x, "mark", x.mark(), 3);
        Check.no(x, "a fourth", x.mark(), 7);
    }

    @Sentence(in = "Promise 47", says = "All is taken back to the latest MARK: how many there are left (8).")
    private static void backToNoMark() {
        PeaTube x = withRound("shoot still; shoot still;");
        Check.no(x, "no mark", x.back(), 8);
        x.mark();
        Check.yes(x, "play", x.play(0), 2);
        x.mark();
        Check.tent(x, "far 4;");
        Check.yes(x, "back to the second", x.back(), 1);
        Check.yes(x, "spit", x.many(7), 2);
        Check.yes(x, "holes", x.many(8), 2);
        Check.yes(x, "score", x.shooter(1, 4), 14);
        Check.yes(x, "round", x.play(0), 2);
        Check.yes(x, "back to the first", x.back(), 0);
        Check.yes(x, "spit", x.many(7), 0);
        Check.yes(x, "holes", x.many(8), 0);
        Check.yes(x, "score", x.shooter(1, 4), 0);
        Check.yes(x, "round", x.play(0), 2);
        Check.no(x, "no mark", x.back(), 8);
        Check.yes(x, "what is refused takes nothing back", x.many(8), 2);
    }

    public static void main(String[] args) throws Exception {
        Sentences.test(Promises35To47Test.class);
    }
}
