/** Promises 43 to 47: play, played, wins, mark, back. */
public final class RoundsAndMarksTest {
    /** Strikes where it is aimed at; of the seeds' draws the first by 3 of seed 0 are 1, 2, of seed 1 0, 0. */
    private static final String STRAIGHT = "tube 48 bore 3; far 4; ring 2 worth 3; ring 1 worth 7;"
        + "pea fit size 3 weight 1; pea big size 4 weight 1; pea wetty size 3 weight 1 wet;"
        + "shooter shaky puff 40 shake 1; shooter calm puff 40 shake 0; shooter weak puff 1 shake 0;";

    private static void told(PeaTube x, String which, int missed, int flew, int failed, int points, int left) {
        int[] due = {missed, flew, failed, points, left};
        for (int what = 0; what < 5; what++) {
            Check.yes(x, which + " played(" + what + ")", x.played(what), due[what]);
        }
    }

    private static PeaTube withRound(String tent, String round) {
        PeaTube x = Check.withTent(tent);
        Check.due("round is taken: " + round, Check.round(x, round) >= 0, true);
        return x;
    }

    private static void wrong() {
        PeaTube x = Check.withTent(STRAIGHT);
        Check.no(x, "play(-1)", x.play(-1), 5);
        Check.no(x, "play(10000)", x.play(10000), 5);
        Check.no(x, "play(0)", x.play(0), 8);
        Check.no(x, "played(5)", x.played(5), 5);
        Check.no(x, "played(-1)", x.played(-1), 5);
        Check.no(x, "played(4)", x.played(4), 8);
        Check.no(x, "wins of no shooter", x.wins(3, -1, 0), 2);
        Check.no(x, "wins from seed -1", x.wins(0, -1, 1), 5);
        Check.no(x, "wins from seed 10000", x.wins(0, 10000, 1), 5);
        Check.no(x, "wins of no seeds", x.wins(0, 0, 0), 5);
        Check.no(x, "wins of 21 seeds", x.wins(0, 0, 21), 5);
        Check.no(x, "wins to seed 10000", x.wins(0, 9981, 20), 5);
        Check.no(x, "wins to seed 9999", x.wins(0, 9980, 20), 8);
        Check.yes(x, "an empty round", x.round(0), 0);
        Check.yes(x, "play(9999)", x.play(9999), 0);
        told(x, "an empty round", 0, 0, 0, 0, 0);
        Check.no(x, "play(10000)", x.play(10000), 5);
        told(x, "a play that is refused changes nothing:", 0, 0, 0, 0, 0);
    }

    private static void draws() {
        PeaTube x = withRound(STRAIGHT, "puff 40; shoot shaky;");
        Check.yes(x, "play(0)", x.play(0), 2);
        // s is 11027, then 57260; by 8: 1378, 7157; by 3: 1, 2; less 1
        Check.yes(x, "hand's x", x.hole(0, 0), 0);
        Check.yes(x, "hand's y", x.hole(0, 1), 1);
        told(x, "play(0)", 0, 1, 0, 7, 0);
        Check.yes(x, "score", x.shooter(0, 4), 7);
        Check.yes(x, "spit", x.many(7), 1);
        Check.yes(x, "play(0) again", x.play(0), 2);
        told(x, "play(0) again", 0, 1, 0, 7, 0);
        Check.yes(x, "scores add up", x.shooter(0, 4), 14);
        PeaTube y = withRound("tube 12 bore 4; far 20; ring 60 worth 1; pea p size 1 weight 1 crooked 4; shooter s puff 40 shake 0;",
            "puff 40; aim 5 25; shoot s; wipe; shoot s; wipe; shoot s;");
        // PACE 120, TIME 40: OFF 20, DROP 25; turns by 2: 1378, 7157, then s is 8231: 1028
        Check.yes(y, "play(0)", y.play(0), 7);
        Check.yes(y, "right", y.hole(0, 0), 25);
        Check.yes(y, "left", y.hole(1, 0), -15);
        Check.yes(y, "y", y.hole(1, 1), 0);
        int third = (int) ((57260L * 2851 + 11027) % 65536 / 8 % 2);
        Check.yes(y, "the third", y.hole(2, 0), third == 0 ? 25 : -15);
    }

    private static void steps() {
        PeaTube x = withRound(STRAIGHT, "shoot calm; aim 1 0 left; shoot calm; aim 0 2 low; shoot calm; aim 9 9 left low; shoot calm;");
        Check.yes(x, "play", x.play(3), 7);
        told(x, "aims", 0, 4, 0, 17, 0);
        int[][] holes = {{0, 0}, {-1, 0}, {0, -2}, {-9, -9}};
        for (int k = 0; k < 4; k++) {
            Check.yes(x, "x", x.hole(k, 0), holes[k][0]);
            Check.yes(x, "y", x.hole(k, 1), holes[k][1]);
            Check.yes(x, "by", x.hole(k, 2), 1);
            Check.yes(x, "pea", x.hole(k, 3), 0);
        }
        Check.yes(x, "round", Check.round(x, "next; shoot calm; next; shoot calm; next; shoot calm; load big; shoot calm;"), 8);
        Check.yes(x, "wipe", x.wipe(), 4);
        Check.yes(x, "play", x.play(3), 8);
        told(x, "big is missed", 2, 2, 0, 14, 0);
        Check.yes(x, "pea", x.hole(4, 3), 2);
        Check.yes(x, "pea", x.hole(5, 3), 0);
        Check.yes(x, "the weak one puffs as it can: PACE 48, TIME 20, DROP 6", Check.round(x, "wipe; puff 40; shoot weak;"), 3);
        Check.yes(x, "play", x.play(3), 3);
        Check.yes(x, "y", x.hole(6, 1), -6);
        Check.yes(x, "puff 20 is there at first, pea 0, aim 0", Check.round(x, "shoot calm; beat 3; shoot shaky;"), 3);
        Check.yes(x, "play", x.play(3), 3);
        told(x, "the hand still", 0, 2, 0, 14, 0);
    }

    private static void missesAndFails() {
        PeaTube x = withRound("shooter a puff 9 shake 0;", "shoot a; next; shoot a; wipe;");
        Check.yes(x, "play", x.play(0), 4);
        told(x, "no peas", 3, 0, 0, 0, 0);
        PeaTube y = withRound(STRAIGHT, "load wetty; loop 5; shoot calm; end; load fit; loop 9; shoot calm; end; load big; shoot calm;");
        Check.yes(y, "play", y.play(0), 1 + 1 + 5 + 1 + 1 + 9 + 2);
        told(y, "3 wet ones fly, 2 stick, 5 fit ones fly, 4 stick, 1 missed:", 1, 8, 6, 56, 0);
        Check.yes(y, "spit", y.many(7), 8);
        Check.yes(y, "round", Check.round(y, "wipe; loop 60; puff 40; shoot calm; wipe; end; shoot calm; load wetty; puff 1; shoot calm;"), 9);
        Check.yes(y, "play", y.play(0), 186);
        told(y, "60 holes", 10, 52, 0, 364, 0);
        Check.yes(y, "holes", y.many(8), 60);
        PeaTube z = withRound("tube 12 bore 8; far 4; pea p size 8 weight 1; pea q size 5 weight 1 crooked 4; shooter a puff 2 shake 3; shooter b puff 1 shake 0;",
            "loop 2; shoot b; load q; end; load p; shoot a;");
        Check.yes(z, "play", z.play(0), 7);
        told(z, "what drops has no draws", 0, 1, 2, 0, 0);
        // by 7: 1378 is 6, 7157 is 3; PACE 24, TIME 40, DROP 25
        Check.yes(z, "x", z.hole(0, 0), 3);
        Check.yes(z, "y", z.hole(0, 1), -25);
    }

    private static void tests() {
        PeaTube x = withRound(STRAIGHT, "when holes = 0; shoot calm; end; when holes > 1; shoot calm; end; when holes < 1; shoot calm; end;"
            + "when spit = 1; shoot calm; end; when score calm > 13; shoot calm; end; when score calm < 21; stop; end;"
            + "when score shaky = 0; wipe; end; when score weak > 0; wipe; end;");
        Check.yes(x, "play", x.play(0), 8 + 4);
        told(x, "tests", 0, 3, 0, 21, 0);
        Check.yes(x, "wiped", x.many(7), 0);
        Check.yes(x, "round", Check.round(x, "loop 3; loop 4; shoot calm; wipe; when holes > 8; stop; end; end; end;"), 6);
        Check.yes(x, "tent anew", Check.tent(x, STRAIGHT), 3);
        Check.yes(x, "round", Check.round(x, "loop 3; loop 4; shoot calm; wipe; when holes > 8; stop; end; end; end; wipe;"), 7);
        Check.yes(x, "play", x.play(0), 1 + 3 + 9 * 3 + 1);
        told(x, "stopped", 0, 9, 0, 63, 0);
        Check.yes(x, "round", Check.round(x, "stop; wipe;"), 2);
        Check.yes(x, "play", x.play(0), 1);
        told(x, "stopped at once", 0, 0, 0, 0, 0);
    }

    private static void mostSteps() {
        PeaTube x = withRound(STRAIGHT, "loop 3; loop 98; wipe; end; end;");
        Check.yes(x, "play: 298", x.play(0), 298);
        told(x, "298", 0, 0, 0, 0, 0);
        Check.yes(x, "round", Check.round(x, "loop 3; loop 98; wipe; end; end; wipe; wipe;"), 5);
        Check.yes(x, "play: 300", x.play(0), 300);
        told(x, "300 and nothing left", 0, 0, 0, 0, 0);
        Check.yes(x, "round", Check.round(x, "loop 3; loop 98; wipe; end; end; wipe; wipe; stop;"), 6);
        Check.yes(x, "play: 300 and a stop left", x.play(0), 300);
        told(x, "300 and a stop left", 0, 0, 0, 0, 1);
        Check.yes(x, "round", Check.round(x, "loop 3; loop 98; wipe; end; end; wipe; stop; wipe;"), 6);
        Check.yes(x, "play: the 300th is a stop", x.play(0), 300);
        told(x, "the 300th is a stop", 0, 0, 0, 0, 0);
        Check.yes(x, "round", Check.round(x, "loop 3; loop 98; wipe; end; end; wipe; loop 99; end;"), 5);
        Check.yes(x, "play: an empty loop at the 300th", x.play(0), 300);
        told(x, "an empty loop at the 300th", 0, 0, 0, 0, 0);
        Check.yes(x, "round", Check.round(x, "loop 3; loop 98; wipe; end; end; wipe; loop 2; wipe; end;"), 6);
        Check.yes(x, "play: a loop at the 300th", x.play(0), 300);
        told(x, "a loop at the 300th", 0, 0, 0, 0, 1);
        Check.yes(x, "round", Check.round(x, "loop 3; loop 98; wipe; end; end; wipe; when spit = 1; wipe; end;"), 6);
        Check.yes(x, "play: a when that does not hold at the 300th", x.play(0), 300);
        told(x, "a when that does not hold at the 300th", 0, 0, 0, 0, 0);
        Check.yes(x, "round", Check.round(x, "loop 99; loop 99; loop 99; end; end; end;"), 3);
        Check.yes(x, "play: loops without steps", x.play(0), 300);
        told(x, "loops without steps", 0, 0, 0, 0, 1);
    }

    private static void winning() {
        PeaTube x = withRound(STRAIGHT, "puff 40; shoot shaky; aim 0 2; shoot calm;");
        // shaky has 7 or 3, calm 3: shaky wins by 7, alone
        int wins = 0;
        for (int seed = 0; seed < 20; seed++) {
            int s = (seed * 2851 + 11027) % 65536;
            int handX = s / 8 % 3 - 1;
            s = (int) ((s * 2851L + 11027) % 65536);
            int handY = s / 8 % 3 - 1;
            wins += handX == 0 || handY == 0 ? 1 : 0;
        }
        int common = java.math.BigInteger.valueOf(wins).gcd(java.math.BigInteger.valueOf(20)).intValue();
        Check.yes(x, "wins", x.wins(0, 0, 20));
        Check.fraction(x, "wins", wins / common, 20 / common);
        Check.due("some win, some don't", wins > 0 && wins < 20, true);
        Check.yes(x, "all stays as it is", x.many(8), 0);
        Check.yes(x, "score stays", x.shooter(0, 4), 0);
        Check.yes(x, "spit stays", x.many(7), 0);
        Check.no(x, "no play", x.played(0), 8);
        Check.yes(x, "wins of calm", x.wins(1, 0, 20));
        Check.fraction(x, "calm is never alone", 0, 1);
        x.shoot(1, 0, 40, 0, 0, 0, 0, 0);
        Check.yes(x, "wins with what there was", x.wins(1, 0, 20));
        Check.fraction(x, "calm has 10", 1, 1);
        Check.yes(x, "play", x.play(0), 4);
        told(x, "play", 0, 2, 0, 10, 0);
        Check.yes(x, "wins of weak", x.wins(2, 5, 1));
        Check.fraction(x, "weak", 0, 1);
        told(x, "wins leaves what played() tells", 0, 2, 0, 10, 0);
        PeaTube y = withRound("pea p size 3 weight 1; shooter s puff 40 shake 1;", "wipe;");
        Check.yes(y, "wins of one alone", y.wins(0, 9999, 1));
        Check.fraction(y, "wins of one alone", 1, 1);
    }

    private static void marks() {
        PeaTube x = Check.withTent(STRAIGHT);
        Check.no(x, "back", x.back(), 8);
        x.tray(0, 0, 1);
        Check.yes(x, "mark", x.mark(), 1);
        x.shoot(1, 0, 40, 0, 0, 0, 0, 0);
        Check.yes(x, "round", Check.round(x, "wipe; wipe;"), 2);
        Check.yes(x, "mark", x.mark(), 2);
        Check.yes(x, "tent", Check.tent(x, "far 5; pea p size 3 weight 1;"), 1);
        Check.yes(x, "mark", x.mark(), 3);
        Check.no(x, "a fourth mark", x.mark(), 7);
        Check.yes(x, "tent", Check.tent(x, "far 6;"), 0);
        x.write(0, 0, 5);
        x.feed(0x66617220, 0x37203b20, 0x20202020, 0x20202020, 0x20202020);
        Check.yes(x, "back", x.back(), 2);
        Check.yes(x, "far", x.many(2), 5);
        Check.yes(x, "peas", x.many(5), 1);
        Check.yes(x, "trays are not taken back", x.read(0, 0), 5);
        Check.no(x, "no round in this tent", x.play(0), 8);
        Check.yes(x, "back", x.back(), 1);
        Check.yes(x, "far", x.many(2), 4);
        Check.yes(x, "spit", x.many(7), 1);
        Check.yes(x, "holes", x.many(8), 1);
        Check.yes(x, "score", x.shooter(1, 4), 7);
        Check.yes(x, "the round", x.play(0), 2);
        Check.yes(x, "wiped by the round", x.many(7), 0);
        Check.yes(x, "mark", x.mark(), 2);
        Check.yes(x, "back", x.back(), 1);
        Check.yes(x, "back", x.back(), 0);
        Check.yes(x, "holes", x.many(8), 0);
        Check.yes(x, "score", x.shooter(1, 4), 0);
        Check.no(x, "no round then", x.play(0), 8);
        Check.yes(x, "played is not taken back", x.played(0), 0);
        Check.no(x, "back", x.back(), 8);
        Check.yes(x, "the tape is not taken back", x.tent(7), 0);
        Check.yes(x, "far", x.many(2), 7);
        Check.yes(x, "names are taken back", Check.tent(x, STRAIGHT), 3);
        x.mark();
        x.tent(0);
        x.back();
        Check.yes(x, "names are taken back", Check.round(x, "load wetty; shoot weak;"), 2);
    }

    public static void main(String[] args) {
        wrong();
        draws();
        steps();
        missesAndFails();
        tests();
        mostSteps();
        winning();
        marks();
        Check.end();
    }
}
