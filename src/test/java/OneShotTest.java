/** Promises 17 to 23, 41, 42: pace, flight, becomes, strikes, points, ringAt, hand, and SHOTS by hand with wipe. */
public final class OneShotTest {
    private static void paces() {
        PeaTube x = Check.withTent(Check.FAIR);
        Check.yes(x, "720 by 2 and 3", x.pace(0, 30, 0), 144);
        Check.yes(x, "720 by 2 and 3 and 6", x.pace(0, 30, 6), 65);
        Check.yes(x, "wet: half of 240", x.pace(2, 30, 0), 120);
        Check.yes(x, "wet: half of 24 * 13 / 3", x.pace(2, 13, 0), 52);
        Check.yes(x, "wet: half of 24 * 13 / 5", x.pace(2, 13, 2), 31);
        Check.yes(x, "24 is not too weak", x.pace(1, 3, 0), 24);
        Check.no(x, "16 is too weak", x.pace(1, 2, 0), 9);
        Check.no(x, "a wet one that sticks", x.pace(2, 40, 3), 9);
        Check.no(x, "any that sticks", x.pace(1, 40, 8), 9);
        Check.no(x, "one that does not go in", x.pace(3, 40, 0), 9);
        Check.no(x, "no pea", x.pace(4, 0, 0), 2);
        Check.no(x, "no pea", x.pace(-1, 0, 0), 2);
        Check.no(x, "puff 0", x.pace(3, 0, 0), 5);
        Check.no(x, "puff 41", x.pace(0, 41, 0), 5);
        Check.no(x, "spit -1", x.pace(0, 1, -1), 5);
        Check.no(x, "spit 21", x.pace(0, 1, 21), 5);
    }

    private static void flights() {
        PeaTube x = Check.withTent(Check.FAIR);
        // PACE 65: 2880 by 65 is 44.3
        int[] small = {45, 31, -11, 4};
        // PACE 31: 2880 by 31 is 92.9
        int[] wet = {93, 135, -23, 0};
        for (int what = 0; what < 4; what++) {
            Check.yes(x, "flight of a small one " + what, x.flight(0, 30, 6, what), small[what]);
            Check.yes(x, "flight of a wet one " + what, x.flight(2, 13, 2, what), wet[what]);
        }
        Check.no(x, "flight what 4", x.flight(3, 13, 2, 4), 5);
        Check.no(x, "flight what -1", x.flight(0, 13, 2, -1), 5);
        Check.no(x, "flight of no pea", x.flight(4, 13, 2, 9), 2);
        Check.no(x, "flight of one too large", x.flight(3, 13, 2, 0), 9);
        Check.no(x, "flight of one that drops", x.flight(1, 2, 0, 0), 9);
        Check.no(x, "flight with puff 0", x.flight(0, 0, 2, 0), 5);
        PeaTube y = Check.withTent("tube 12 bore 3; far 20; wind 9; pea p size 1 weight 1 crooked 4; pea q size 3 weight 8 crooked 3;");
        // PACE 24 by 480 by 8 is 60: TIME 80; and 12 * 40 by 3 is 160: TIME 30
        Check.yes(y, "time", y.flight(1, 40, 0, 0), 80);
        Check.yes(y, "drop", y.flight(1, 40, 0, 1), 100);
        Check.yes(y, "aside to the right", y.flight(1, 40, 0, 2), 90);
        Check.yes(y, "off of one that fits", y.flight(1, 40, 0, 3), 15);
        Check.yes(y, "off of one with fit 2", y.flight(0, 40, 0, 3), 7);
        PeaTube z = Check.withTent("tube 12 bore 4; far 20; pea p size 1 weight 1 crooked 4;");
        // PACE 120: TIME 40, 4 * 40 by 16 is 10
        Check.yes(z, "off of one with fit 3 is twice", z.flight(0, 40, 0, 3), 20);
        PeaTube w = Check.withTent("tube 12 bore 4; far 20; pea p size 1 weight 1 crooked 1;");
        // PACE 42 with puff 14: TIME 115, by 16 is 7.2
        Check.yes(w, "rounded ahead of twice", w.flight(0, 14, 0, 3), 14);
    }

    private static void becoming() {
        PeaTube x = Check.withTent(Check.FAIR);
        Check.yes(x, "flies", x.becomes(0, 30, 0), 0);
        Check.yes(x, "flies at spit 7", x.becomes(0, 30, 7), 0);
        Check.yes(x, "sticks at spit 8", x.becomes(0, 30, 8), 2);
        Check.yes(x, "wet flies at spit 2", x.becomes(2, 30, 2), 0);
        Check.yes(x, "wet sticks at spit 3", x.becomes(2, 30, 3), 2);
        Check.yes(x, "does not go in, with spit too", x.becomes(3, 1, 20), 1);
        Check.yes(x, "drops", x.becomes(1, 2, 0), 3);
        Check.yes(x, "what sticks does not drop", x.becomes(1, 1, 20), 2);
        Check.yes(x, "wet: 48 halved still flies", x.becomes(2, 6, 0), 0);
        Check.yes(x, "wet: 40 halved drops", x.becomes(2, 5, 0), 3);
        Check.no(x, "no pea", x.becomes(4, 1, 0), 2);
        Check.no(x, "puff 41", x.becomes(3, 41, 0), 5);
        Check.no(x, "spit 21", x.becomes(3, 1, 21), 5);
    }

    private static void striking() {
        PeaTube x = Check.withTent(Check.FAIR);
        Check.yes(x, "x: 10 and 7 less 3", x.strikes(2, 1, 30, 10, -20, 1, 0), 14);
        Check.yes(x, "y: -20 less 3 less 2", x.strikes(2, 1, 30, 10, -20, 1, 1), -25);
        Check.yes(x, "turned right", x.strikes(0, 0, 30, 0, 0, 1, 0), -2);
        Check.yes(x, "turned left", x.strikes(0, 0, 30, 0, 0, -1, 0), -6);
        Check.yes(x, "not turned", x.strikes(0, 0, 30, 0, 0, 0, 0), -4);
        Check.yes(x, "-1 is an answer, too", x.strikes(0, 0, 30, 0, 3, 0, 1), -1);
        Check.no(x, "harder than ann can", x.strikes(0, 1, 31, 0, 0, 0, 0), 5);
        Check.no(x, "harder than bob can", x.strikes(1, 1, 21, 0, 0, 0, 0), 5);
        Check.no(x, "puff 0", x.strikes(1, 1, 0, 0, 0, 0, 0), 5);
        Check.no(x, "x 61", x.strikes(1, 1, 1, 61, 0, 0, 0), 5);
        Check.no(x, "y -61", x.strikes(1, 1, 1, 0, -61, 0, 0), 5);
        Check.no(x, "turn 2", x.strikes(1, 1, 1, 0, 0, 2, 0), 5);
        Check.no(x, "turn -2", x.strikes(1, 1, 1, 0, 0, -2, 0), 5);
        Check.no(x, "what 2", x.strikes(1, 3, 1, 0, 0, 0, 2), 5);
        Check.no(x, "too large", x.strikes(1, 3, 1, 0, 0, 0, 0), 9);
        Check.no(x, "drops", x.strikes(1, 1, 2, 0, 0, 0, 0), 9);
        Check.no(x, "no pea", x.strikes(1, 4, 99, 0, 0, 0, 0), 2);
        Check.no(x, "no shooter", x.strikes(3, 1, 99, 0, 0, 0, 0), 2);
        Check.yes(x, "the edge of aims", x.strikes(1, 1, 20, 60, -60, 0, 0), 56);
        x.shoot(0, 1, 30, 0, 0, 0, 0, 0);
        // PACE 720 by 4 is 180 now, TIME 16
        Check.yes(x, "x with spit 1", x.strikes(0, 1, 30, 0, 0, 0, 0), -3);
        Check.yes(x, "y with spit 1", x.strikes(0, 1, 30, 0, 0, 0, 1), -2);
    }

    private static void pointing() {
        PeaTube x = Check.withTent(Check.FAIR);
        Check.yes(x, "points in the middle", x.points(0, 0), 5);
        Check.yes(x, "points just within", x.points(-3, -4), 5);
        Check.yes(x, "points just beyond", x.points(-5, 1), 3);
        Check.yes(x, "points at 15", x.points(-9, 12), 3);
        Check.yes(x, "points at 30", x.points(0, -30), 1);
        Check.yes(x, "points beyond all", x.points(1, -30), 0);
        Check.yes(x, "points far beyond", x.points(-999, 999), 0);
        Check.no(x, "points too far", x.points(0, 1000), 5);
        Check.no(x, "points too far", x.points(-1000, 0), 5);
        Check.yes(x, "ring in the middle", x.ringAt(0, 0), 2);
        Check.yes(x, "ring at 15", x.ringAt(9, 12), 1);
        Check.yes(x, "ring at 30", x.ringAt(-18, 24), 0);
        Check.no(x, "ring beyond all", x.ringAt(30, 1), 8);
        Check.no(x, "ring too far", x.ringAt(1000, 1), 5);
        Check.no(x, "ring too far", x.ringAt(0, -1000), 5);
    }

    private static void hands() {
        PeaTube x = Check.withTent("shooter a puff 1 shake 0; shooter b puff 1 shake 1; shooter c puff 1 shake 5; shooter d puff 1 shake 6;");
        int[][] far = {{0, 0, 0, 0}, {1, 1, 1, 0}, {5, 3, 1, 0}, {6, 3, 1, 0}};
        for (int shooter = 0; shooter < 4; shooter++) {
            for (int beat = 0; beat < 4; beat++) {
                Check.yes(x, "hand(" + shooter + ", " + beat + ")", x.hand(shooter, beat), far[shooter][beat]);
            }
        }
        Check.no(x, "hand(4, 9)", x.hand(4, 9), 2);
        Check.no(x, "hand(-1, 0)", x.hand(-1, 0), 2);
        Check.no(x, "hand(0, 4)", x.hand(0, 4), 5);
        Check.no(x, "hand(0, -1)", x.hand(0, -1), 5);
    }

    private static void shooting() {
        PeaTube x = Check.withTent(Check.FAIR);
        Check.yes(x, "shoot", x.shoot(2, 0, 30, 0, 0, -1, 6, -6), 1);
        // x: 7 less 5 less 2 and 6; y: -3 less 6 less 6: beyond the ring of 15
        Check.yes(x, "x", x.hole(0, 0), 6);
        Check.yes(x, "y", x.hole(0, 1), -15);
        Check.yes(x, "by whom", x.hole(0, 2), 2);
        Check.yes(x, "which pea", x.hole(0, 3), 0);
        Check.no(x, "a hand of 7", x.shoot(0, 1, 30, 0, 0, 0, 7, 0), 5);
        Check.no(x, "a hand of -7", x.shoot(0, 1, 30, 0, 0, 0, 0, -7), 5);
        Check.no(x, "turn 2", x.shoot(0, 1, 30, 0, 0, 2, 0, 0), 5);
        Check.no(x, "aim 61", x.shoot(0, 1, 30, 0, 61, 0, 0, 0), 5);
        Check.no(x, "harder than ann can", x.shoot(0, 1, 31, 0, 0, 0, 0, 0), 5);
        Check.no(x, "no pea", x.shoot(0, 4, 31, 0, 0, 0, 0, 0), 2);
        Check.no(x, "no shooter", x.shoot(-1, 1, 31, 0, 0, 0, 0, 0), 2);
        Check.no(x, "drops", x.shoot(0, 1, 1, 0, 0, 0, 0, 0), 9);
        Check.no(x, "too large", x.shoot(0, 3, 30, 0, 0, 0, 0, 0), 9);
        Check.yes(x, "what is refused makes no spit", x.many(7), 1);
        Check.yes(x, "and no hole", x.many(8), 1);
        // PACE 120, TIME 24: 9 down, 6 to the left
        Check.yes(x, "a hand may be larger than told", x.shoot(1, 1, 20, 0, 0, 0, 6, 6), 5);
        Check.yes(x, "x", x.hole(1, 0), 0);
        Check.yes(x, "y", x.hole(1, 1), -3);
        Check.yes(x, "wet at spit 2", x.shoot(0, 2, 30, 0, 30, 0, 0, 0) >= 0 ? 1 : 0, 1);
        Check.no(x, "wet at spit 3", x.shoot(0, 2, 30, 0, 30, 0, 0, 0), 9);
        Check.yes(x, "wipe", x.wipe(), 3);
        Check.yes(x, "wipe again", x.wipe(), 0);
        Check.yes(x, "wet at spit 0", x.shoot(0, 2, 30, 0, 30, 0, 0, 0) >= 0 ? 1 : 0, 1);
        for (int i = 0; i < 7; i++) {
            x.shoot(0, 1, 30, 0, 0, 0, 0, 0);
        }
        Check.yes(x, "spit", x.many(7), 8);
        Check.no(x, "any sticks at spit 8", x.shoot(0, 1, 30, 0, 0, 0, 0, 0), 9);
        Check.yes(x, "spit", x.many(7), 8);
    }

    private static void walls() {
        // PACE 137, TIME 36: 40 to the right, 20 down
        PeaTube x = Check.withTent("tube 48 bore 3; far 20; wind 9; ring 60 worth 2; pea p size 3 weight 14; shooter s puff 40 shake 0;");
        Check.yes(x, "strikes", x.strikes(0, 0, 40, 60, 60, 0, 0), 100);
        Check.yes(x, "at 100", x.shoot(0, 0, 40, 60, 60, 0, 0, 0), 0);
        Check.yes(x, "no hole", x.many(8), 0);
        Check.yes(x, "but spit", x.wipe(), 1);
        Check.yes(x, "at 99", x.shoot(0, 0, 40, 59, 60, 0, 0, 0), 0);
        Check.yes(x, "a hole", x.many(8), 1);
        Check.yes(x, "its x", x.hole(0, 0), 99);
        x.wipe();
        for (int i = 1; i < 60; i++) {
            Check.yes(x, "points", x.shoot(0, 0, 40, -40, 20, 0, 0, 0), 2);
            x.wipe();
        }
        Check.yes(x, "holes", x.many(8), 60);
        Check.no(x, "one too many", x.shoot(0, 0, 40, -40, 20, 0, 0, 0), 7);
        Check.no(x, "one that would miss the wall, too", x.shoot(0, 0, 40, 60, 60, 0, 0, 0), 7);
        Check.no(x, "one that would drop, too", x.shoot(0, 0, 1, 60, 60, 0, 0, 0), 7);
        Check.no(x, "a number that can't be", x.shoot(0, 0, 41, 60, 60, 0, 0, 0), 5);
        Check.yes(x, "score", x.shooter(0, 4), 118);
        Check.yes(x, "its holes", x.shooter(0, 5), 60);
        Check.yes(x, "same", x.same(), 59 * 58 / 2);
    }

    public static void main(String[] args) {
        paces();
        flights();
        becoming();
        striking();
        pointing();
        hands();
        shooting();
        walls();
        Check.end();
    }
}
