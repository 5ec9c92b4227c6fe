/** The edges that the Terms behind "==== 2." name: FIT, PACE, TIME, where a PEA STRIKES, the HAND, POINTS, SHOTS by hand. */
public final class TermsShotsTest {
    private static final String SHOTS = "==== 2.";
    /** TIME 1 with the hardest PUFF: it STRIKES where it is aimed at. */
    private static final String STRAIGHT = "tube 48 bore 3; far 4; ring 1 worth 1; pea p size 3 weight 1;"
        + "shooter still puff 40 shake 0; shooter shaky puff 40 shake 6;";

    /** FIT 0 and WEIGHT 1: the PACE is the inches times the PUFF, the TIME is 960 by that, rounded up. */
    private static PeaTube plain(int inches, String more) {
        return Check.withTent("tube " + inches + " bore 3; far 4; pea p size 3 weight 1 " + more);
    }

    private static void flight(PeaTube x, int puff, int what, int due) {
        Check.yes(x, "flight(0, " + puff + ", 0, " + what + ")", x.flight(0, puff, 0, what), due);
    }

    @Sentence(in = SHOTS, says = "FIT of a PEA: BORE less SIZE. One that is larger than the BORE does not go in")
    private static void largerThanTheBoreDoesNotGoIn() {
        PeaTube x = Check.withTent("tube 24 bore 3; pea a size 3 weight 1; pea b size 4 weight 1; pea c size 12 weight 1; pea d size 1 weight 1;");
        Check.yes(x, "as large as the bore: fit", x.pea(0, 4), 0);
        Check.yes(x, "as large as the bore: becomes", x.becomes(0, 40, 0), 0);
        Check.no(x, "larger by one: fit", x.pea(1, 4), 9);
        Check.yes(x, "larger by one: becomes", x.becomes(1, 40, 0), 1);
        Check.no(x, "larger by nine: fit", x.pea(2, 4), 9);
        Check.yes(x, "smaller by two: fit", x.pea(3, 4), 2);
        PeaTube y = Check.withTent("tube 24 bore 12; pea a size 12 weight 1; pea b size 1 weight 1;");
        Check.yes(y, "the largest in the widest", y.pea(0, 4), 0);
        Check.yes(y, "the smallest in the widest", y.pea(1, 4), 11);
    }

    @Sentence(in = SHOTS, says = "one with FIT 3 or more RATTLES")
    private static void fit3Rattles() {
        PeaTube x = Check.withTent("tube 24 bore 12; pea a size 12 weight 1; pea b size 10 weight 1; pea c size 9 weight 1;"
            + "pea d size 8 weight 1; pea e size 1 weight 1;");
        int[] due = {0, 0, 1, 1, 1};
        for (int pea = 0; pea < 5; pea++) {
            Check.yes(x, "rattles " + pea, x.pea(pea, 5), due[pea]);
        }
    }

    @Sentence(in = SHOTS, says = "PACE: PUFF times the TUBE's inches, by WEIGHT and FIT and SPIT together, rounded down")
    private static void paceIsRoundedDown() {
        PeaTube x = Check.withTent("tube 25 bore 5; pea a size 3 weight 2;");
        Check.yes(x, "250 by 4", x.pace(0, 10, 0), 62);
        Check.yes(x, "250 by 5", x.pace(0, 10, 1), 50);
        Check.yes(x, "250 by 6", x.pace(0, 10, 2), 41);
        Check.yes(x, "250 by 10", x.pace(0, 10, 6), 25);
        PeaTube y = Check.withTent("tube 48 bore 3; pea a size 3 weight 1;");
        Check.yes(y, "the greatest of all", y.pace(0, 40, 0), 1920);
        PeaTube z = Check.withTent("tube 48 bore 12; pea a size 1 weight 20;");
        Check.yes(z, "1920 by 20 and 11 and 7", z.pace(0, 40, 7), 50);
    }

    @Sentence(in = SHOTS, says = "a WET one: half of that, rounded down")
    private static void wetHasHalfThePaceRoundedDown() {
        PeaTube x = Check.withTent("tube 25 bore 3; pea a size 3 weight 1 wet; pea b size 3 weight 2 wet;");
        Check.yes(x, "half of 50", x.pace(0, 2, 0), 25);
        Check.yes(x, "half of 75", x.pace(0, 3, 0), 37);
        Check.yes(x, "half of 125 by 2", x.pace(1, 5, 0), 31);
    }

    @Sentence(in = SHOTS, says = "A PACE below 24 is too weak: it DROPS out")
    private static void paceBelow24Drops() {
        PeaTube x = Check.withTent("tube 12 bore 3; pea a size 3 weight 20; pea b size 3 weight 10 wet; pea c size 3 weight 1;");
        Check.yes(x, "24", x.becomes(0, 40, 0), 0);
        Check.yes(x, "24", x.pace(0, 40, 0), 24);
        Check.yes(x, "468 by 20: 23", x.becomes(0, 39, 0), 3);
        Check.no(x, "23", x.pace(0, 39, 0), 9);
        Check.yes(x, "480 by 21: 22", x.becomes(0, 40, 1), 3);
        Check.yes(x, "wet: half of 48", x.becomes(1, 40, 0), 0);
        Check.yes(x, "wet: half of 46", x.becomes(1, 39, 0), 3);
        Check.yes(x, "the weakest puff: 12", x.becomes(2, 1, 0), 3);
        Check.yes(x, "24 with puff 2", x.becomes(2, 2, 0), 0);
        PeaTube y = Check.withTent("tube 47 bore 3; pea a size 3 weight 10 wet;");
        Check.yes(y, "wet: half of 47", y.becomes(0, 10, 0), 3);
    }

    @Sentence(in = SHOTS, says = "a WET PEA STICKS at SPIT 3 and more")
    private static void wetSticksAtSpit3() {
        PeaTube x = Check.withTent("tube 48 bore 3; pea a size 3 weight 1 wet; pea b size 3 weight 1;");
        int[] wet = {0, 0, 0, 2, 2, 2, 2, 2, 2, 2};
        for (int spit = 0; spit < 10; spit++) {
            Check.yes(x, "wet at spit " + spit, x.becomes(0, 40, spit), wet[spit]);
        }
        Check.yes(x, "wet at spit 20", x.becomes(0, 40, 20), 2);
        Check.yes(x, "dry at spit 3", x.becomes(1, 40, 3), 0);
    }

    @Sentence(in = SHOTS, says = "any at SPIT 8 and more")
    private static void anySticksAtSpit8() {
        PeaTube x = Check.withTent("tube 48 bore 3; pea b size 3 weight 1;");
        Check.yes(x, "dry at spit 7", x.becomes(0, 40, 7), 0);
        Check.yes(x, "dry at spit 8", x.becomes(0, 40, 8), 2);
        Check.yes(x, "dry at spit 9", x.becomes(0, 40, 9), 2);
        Check.yes(x, "dry at spit 20", x.becomes(0, 40, 20), 2);
    }

    @Sentence(in = SHOTS, says = "(what STICKS does not DROP)")
    private static void whatSticksDoesNotDrop() {
        PeaTube x = Check.withTent("tube 12 bore 3; pea a size 3 weight 20; pea b size 3 weight 20 wet;");
        Check.yes(x, "too weak at spit 7", x.becomes(0, 1, 7), 3);
        Check.yes(x, "too weak at spit 8", x.becomes(0, 1, 8), 2);
        Check.yes(x, "wet and too weak at spit 2", x.becomes(1, 1, 2), 3);
        Check.yes(x, "wet and too weak at spit 3", x.becomes(1, 1, 3), 2);
    }

    @Sentence(in = SHOTS, says = "TIME: yards times 240 by PACE, rounded up")
    private static void timeIsRoundedUp() {
        flight(plain(24, ";"), 1, 0, 40);
        flight(plain(25, ";"), 1, 0, 39);
        flight(plain(47, ";"), 1, 0, 21);
        flight(plain(48, ";"), 1, 0, 20);
        // PACE 137 of which 7 are 959, PACE 160 of which 6 are 960
        flight(Check.withTent("tube 48 bore 3; far 4; pea p size 3 weight 7;"), 20, 0, 8);
        flight(Check.withTent("tube 48 bore 3; far 4; pea p size 3 weight 6;"), 20, 0, 6);
        flight(plain(48, ";"), 20, 0, 1);
        flight(plain(48, ";"), 19, 0, 2);
        flight(plain(48, ";"), 40, 0, 1);
        flight(Check.withTent("tube 24 bore 3; far 20; pea p size 3 weight 1;"), 1, 0, 200);
    }

    @Sentence(in = SHOTS, says = "DROP: TIME times TIME by 64, rounded down")
    private static void dropIsRoundedDown() {
        // TIME 7, 8, 12; 11
        flight(plain(12, ";"), 12, 1, 0);
        flight(plain(12, ";"), 10, 1, 1);
        flight(plain(12, ";"), 7, 1, 2);
        flight(plain(13, ";"), 7, 1, 1);
        flight(Check.withTent("tube 24 bore 3; far 20; pea p size 3 weight 1;"), 1, 1, 625);
    }

    @Sentence(in = SHOTS, says = "ASIDE: WIND times TIME by 8, rounded down, to its side")
    private static void asideIsRoundedDownToItsSide() {
        String[] winds = {"; wind 1;", "; wind 1 left;", "; wind 9;", "; wind 9 left;", "; wind 0;", "; wind 0 left;", ";"};
        // TIME 7, 8, 16 of 12 inches, 15 of 13
        int[][] due = {{0, 1, 2, 1}, {0, -1, -2, -1}, {7, 9, 18, 16}, {-7, -9, -18, -16}, {0, 0, 0, 0}, {0, 0, 0, 0}, {0, 0, 0, 0}};
        for (int i = 0; i < winds.length; i++) {
            flight(plain(12, winds[i]), 12, 2, due[i][0]);
            flight(plain(12, winds[i]), 10, 2, due[i][1]);
            flight(plain(12, winds[i]), 5, 2, due[i][2]);
            flight(plain(13, winds[i]), 5, 2, due[i][3]);
        }
    }

    @Sentence(in = SHOTS, says = "OFF: CROOKED times TIME by 16, rounded down, twice that if it RATTLES")
    private static void offIsRoundedDownAheadOfTwice() {
        flight(plain(13, "crooked 1;"), 5, 3, 0);
        flight(plain(12, "crooked 1;"), 5, 3, 1);
        flight(plain(13, "crooked 3;"), 5, 3, 2);
        flight(plain(12, "crooked 4;"), 10, 3, 2);
        flight(plain(12, "crooked 0;"), 5, 3, 0);
        flight(plain(12, ";"), 5, 3, 0);
        // PACE 31, TIME 31: 1 and the rest of 15; FIT 2 of WEIGHT 2 and FIT 3 of WEIGHT 1 both have 4
        flight(Check.withTent("tube 31 bore 5; far 4; pea p size 3 weight 2 crooked 1;"), 4, 3, 1);
        flight(Check.withTent("tube 31 bore 6; far 4; pea p size 3 weight 1 crooked 1;"), 4, 3, 2);
    }

    @Sentence(in = SHOTS, says = "It STRIKES at x: the aim's x, the SHOOTER's LEAN, ASIDE, the hand's x, together with OFF to the right or left by its turn")
    private static void strikesAtX() {
        PeaTube x = Check.withTent("tube 12 bore 3; far 4; wind 1 left; pea p size 3 weight 1 crooked 1; shooter s puff 5 shake 0 lean 9 0;");
        // TIME 16: ASIDE -2, OFF 1
        Check.yes(x, "to the right", x.strikes(0, 0, 5, -60, 0, 1, 0), -52);
        Check.yes(x, "to the left", x.strikes(0, 0, 5, -60, 0, -1, 0), -54);
        Check.yes(x, "not at all", x.strikes(0, 0, 5, -60, 0, 0, 0), -53);
        x.shoot(0, 0, 5, -60, 0, -1, -6, 0);
        Check.yes(x, "with a hand", x.hole(0, 0), -60);
    }

    @Sentence(in = SHOTS, says = "y: the aim's y, LEAN, the hand's y, less DROP.")
    private static void strikesAtY() {
        String tent = "tube 12 bore 3; far 4; wind 9; pea p size 3 weight 1 crooked 4; shooter s puff 5 shake 0 lean 9 ";
        // TIME 16: DROP 4
        PeaTube x = Check.withTent(tent + "7;");
        PeaTube y = Check.withTent(tent + "7 low;");
        Check.yes(x, "up", x.strikes(0, 0, 5, 0, 60, 1, 1), 63);
        Check.yes(y, "low", y.strikes(0, 0, 5, 0, 60, -1, 1), 49);
        x.shoot(0, 0, 5, -60, -60, 0, 0, 6);
        y.shoot(0, 0, 5, -60, -60, 0, 0, -6);
        Check.yes(x, "up with a hand", x.hole(0, 1), -51);
        Check.yes(y, "low with a hand", y.hole(0, 1), -77);
    }

    @Sentence(in = SHOTS, says = "Aims are -60 to 60 each, x to the right, y up from the middle.")
    private static void aimsAreMinus60To60() {
        PeaTube x = Check.withTent(STRAIGHT);
        for (int aim : new int[] {-60, 60}) {
            Check.yes(x, "x " + aim, x.strikes(0, 0, 40, aim, 0, 0, 0), aim);
            Check.yes(x, "y " + aim, x.strikes(0, 0, 40, 0, aim, 0, 1), aim);
            Check.yes(x, "mean", x.mean(0, 0, 40, 0, aim, aim));
            Check.yes(x, "shoot", x.shoot(0, 0, 40, aim, aim, 0, 0, 0), 0);
        }
        for (int aim : new int[] {-61, 61, Integer.MIN_VALUE, Integer.MAX_VALUE}) {
            Check.no(x, "x " + aim, x.strikes(0, 0, 40, aim, 0, 0, 0), 5);
            Check.no(x, "y " + aim, x.strikes(0, 0, 40, 0, aim, 0, 0), 5);
            Check.no(x, "mean", x.mean(0, 0, 40, 0, aim, 0), 5);
            Check.no(x, "mean", x.mean(0, 0, 40, 0, 0, aim), 5);
            Check.no(x, "shoot", x.shoot(0, 0, 40, aim, 0, 0, 0, 0), 5);
            Check.no(x, "shoot", x.shoot(0, 0, 40, 0, aim, 0, 0, 0), 5);
        }
    }

    @Sentence(in = SHOTS, says = "The HAND by the BEAT (0 to 3): on 0 it shakes as far as told, on 1 half of that (rounded up), on 2 by 1 (0 if it is 0), on 3 not")
    private static void theHandByTheBeat() {
        int[][] due = {{0, 0, 0, 0}, {1, 1, 1, 0}, {2, 1, 1, 0}, {3, 2, 1, 0}, {4, 2, 1, 0}, {5, 3, 1, 0}, {6, 3, 1, 0}};
        for (int shake = 0; shake <= 6; shake++) {
            PeaTube x = Check.withTent("shooter s puff 1 shake " + shake + ";");
            for (int beat = 0; beat < 4; beat++) {
                Check.yes(x, "shake " + shake + " on beat " + beat, x.hand(0, beat), due[shake][beat]);
            }
            Check.no(x, "beat -1", x.hand(0, -1), 5);
            Check.no(x, "beat 4", x.hand(0, 4), 5);
        }
    }

    @Sentence(in = SHOTS, says = "with n: each of x, y is one of -n to n by even chances")
    private static void theHandIsMinusNToN() {
        PeaTube x = Check.withTent(STRAIGHT);
        // the RING of 1 has five places; aimed 6 away four of them can be struck, 7 away one, 8 away none
        int[] due = {5, 5, 5, 5, 5, 5, 4, 1, 0};
        for (int aim = 0; aim < due.length; aim++) {
            int[][] aims = {{aim, 0}, {-aim, 0}, {0, aim}, {0, -aim}};
            for (int[] at : aims) {
                Check.yes(x, "mean at " + at[0] + ", " + at[1], x.mean(1, 0, 40, 0, at[0], at[1]));
                Check.fraction(x, "mean at " + at[0] + ", " + at[1], due[aim], due[aim] == 0 ? 1 : 169);
            }
        }
        Check.yes(x, "mean of the corner", x.mean(1, 0, 40, 0, 6, -6));
        Check.fraction(x, "mean of the corner", 3, 169);
        Check.yes(x, "mean, n 0", x.mean(1, 0, 40, 3, 1, 0));
        Check.fraction(x, "mean, n 0", 1, 1);
        Check.yes(x, "mean, n 0", x.mean(0, 0, 40, 0, 1, 1));
        Check.fraction(x, "mean, n 0", 0, 1);
    }

    @Sentence(in = SHOTS, says = "the PEA's turn (right or left) by even chances, if OFF is above 0")
    private static void theTurnIfOffIsAbove0() {
        // TIME 16: OFF 1, DROP 4; TIME 15 of 13 inches: OFF 0, DROP 3
        String more = "crooked 1; ring 1 worth 1; shooter s puff 40 shake 0;";
        PeaTube x = plain(12, more);
        int[][] due = {{1, 1}, {1, 2}, {1, 2}, {0, 1}};
        for (int aim = 0; aim < 4; aim++) {
            Check.yes(x, "odds", x.odds(0, 0, 5, 0, aim, 4, 1));
            Check.fraction(x, "odds with off 1 at " + aim, due[aim][0], due[aim][1]);
            Check.yes(x, "odds", x.odds(0, 0, 5, 0, -aim, 4, 1));
            Check.fraction(x, "odds with off 1 at -" + aim, due[aim][0], due[aim][1]);
        }
        PeaTube y = plain(13, more);
        for (int aim = 0; aim < 4; aim++) {
            Check.yes(y, "odds", y.odds(0, 0, 5, 0, aim, 3, 1));
            Check.fraction(y, "odds with off 0 at " + aim, aim < 2 ? 1 : 0, 1);
        }
    }

    @Sentence(in = SHOTS, says = "what the last RING told is WORTH that reaches so far as x times x and y times y together come to the square of it, or less; 0 beyond all")
    private static void pointsAtTheEdgeOfARing() {
        PeaTube x = Check.withTent("ring 60 worth 2; ring 25 worth 9; ring 1 worth 20;");
        int[][] due = {{0, 0, 20}, {0, -1, 20}, {1, 1, 9}, {7, -24, 9}, {0, 25, 9}, {25, 1, 2}, {-8, 24, 2}, {-36, 48, 2}, {60, 0, 2},
            {60, 1, 0}, {-37, -48, 0}, {0, 61, 0}, {999, 999, 0}};
        for (int[] row : due) {
            Check.yes(x, "points(" + row[0] + ", " + row[1] + ")", x.points(row[0], row[1]), row[2]);
        }
        PeaTube y = Check.withTent("far 4;");
        Check.yes(y, "points without rings", y.points(0, 0), 0);
    }

    @Sentence(in = SHOTS, says = "0 for what DROPS, STICKS")
    private static void noPointsForWhatDropsOrSticks() {
        PeaTube x = Check.withTent("tube 12 bore 3; ring 60 worth 20; pea p size 3 weight 1; pea wetty size 3 weight 1 wet; pea fat size 4 weight 1; shooter s puff 40 shake 0;");
        Check.yes(x, "mean", x.mean(0, 0, 1, 0, 0, 0));
        Check.fraction(x, "mean of what drops", 0, 1);
        Check.yes(x, "odds", x.odds(0, 0, 1, 0, 0, 0, 1));
        Check.fraction(x, "odds of what drops", 0, 1);
        Check.yes(x, "mean", x.mean(0, 2, 40, 0, 0, 0));
        Check.fraction(x, "mean of what does not go in", 0, 1);
        for (int spit = 0; spit < 8; spit++) {
            Check.yes(x, "mean", x.mean(0, 0, 40, 0, 0, 0));
            Check.fraction(x, "mean at spit " + spit, 20, 1);
            Check.yes(x, "mean", x.mean(0, 1, 40, 0, 0, 0));
            Check.fraction(x, "mean of a wet one at spit " + spit, spit < 3 ? 20 : 0, 1);
            Check.yes(x, "shoot", x.shoot(0, 0, 40, 0, 0, 0, 0, 0), 20);
        }
        Check.yes(x, "mean", x.mean(0, 0, 40, 0, 0, 0));
        Check.fraction(x, "mean of what sticks", 0, 1);
    }

    @Sentence(in = SHOTS, says = "each that goes in makes SPIT 1 more (20 at most), DROPS, STICKS do not")
    private static void eachShotMakesSpit1More() {
        PeaTube x = Check.withTent(STRAIGHT);
        for (int spit = 0; spit < 8; spit++) {
            Check.yes(x, "spit", x.many(7), spit);
            Check.yes(x, "shoot", x.shoot(0, 0, 40, 0, 0, 0, 0, 0), 1);
        }
        // at SPIT 8 all STICKS, so that it never comes to 20
        Check.no(x, "what sticks", x.shoot(0, 0, 40, 0, 0, 0, 0, 0), 9);
        Check.yes(x, "spit", x.many(7), 8);
        Check.yes(x, "round", Check.round(x, "puff 40; loop 99; shoot still; end;"), 3);
        Check.yes(x, "play", x.play(0), 101);
        Check.yes(x, "spit", x.many(7), 8);
        x.wipe();
        PeaTube y = plain(12, "; shooter s puff 40 shake 0;");
        Check.no(y, "what drops", y.shoot(0, 0, 1, 0, 0, 0, 0, 0), 9);
        Check.yes(y, "spit", y.many(7), 0);
    }

    @Sentence(in = SHOTS, says = "what STRIKES is a HOLE (x, y, by whom, which PEA), at most 60")
    private static void atMost60Holes() {
        PeaTube x = Check.withTent(STRAIGHT);
        for (int k = 0; k < 60; k++) {
            Check.yes(x, "holes", x.many(8), k);
            Check.yes(x, "shoot", x.shoot(k % 2, 0, 40, k, -k, 0, 0, 0), k < 1 ? 1 : 0);
            x.wipe();
        }
        Check.yes(x, "holes", x.many(8), 60);
        Check.no(x, "the 61st", x.shoot(0, 0, 40, 0, 0, 0, 0, 0), 7);
        Check.yes(x, "holes", x.many(8), 60);
        int[] due = {59, -59, 1, 0};
        for (int what = 0; what < 4; what++) {
            Check.yes(x, "the 60th, " + what, x.hole(59, what), due[what]);
        }
    }

    @Sentence(in = SHOTS, says = "if x and y are -99 to 99 (else it misses the tent's wall and is none)")
    private static void beyond99ItMissesTheWall() {
        // PACE 137, TIME 36: ASIDE 40, DROP 20; PACE 96, TIME 50: DROP 39
        String far = "tube 48 bore 3; far 20; pea p size 3 weight 14; pea q size 3 weight 20; shooter s puff 40 shake 0;";
        PeaTube right = Check.withTent(far + "wind 9;");
        wall(right, 0, 60, 0, 0, false);
        wall(right, 0, 59, 0, 0, true);
        Check.yes(right, "x", right.hole(0, 0), 99);
        PeaTube left = Check.withTent(far + "wind 9 left;");
        wall(left, 0, -60, 0, 0, false);
        wall(left, 0, -59, 0, 0, true);
        Check.yes(left, "x", left.hole(0, 0), -99);
        PeaTube low = Check.withTent(far);
        wall(low, 1, 0, -60, 0, true);
        Check.yes(low, "y", low.hole(0, 1), -99);
        wall(low, 1, 0, -60, -1, false);
        wall(low, 1, 0, -60, 1, true);
        Check.yes(low, "y", low.hole(1, 1), -98);
        PeaTube high = Check.withTent("tube 48 bore 3; far 4; ring 60 worth 1; pea p size 3 weight 1; shooter s puff 40 shake 6 lean 9 9;");
        wall(high, 0, 60, 60, 6, true);
        Check.yes(high, "nothing goes higher", high.hole(0, 1), 75);
    }

    private static void wall(PeaTube x, int pea, int aimX, int aimY, int handY, boolean hole) {
        int holes = x.many(8);
        Check.yes(x, "shoot", x.shoot(0, pea, 40, aimX, aimY, 0, 0, handY), 0);
        Check.yes(x, "holes", x.many(8), hole ? holes + 1 : holes);
        Check.yes(x, "spit, with or without a hole", x.wipe(), 1);
    }

    @Sentence(in = SHOTS, says = "WIPE: no SPIT.")
    private static void aWipeLeavesNoSpit() {
        PeaTube x = Check.withTent(STRAIGHT);
        Check.yes(x, "wipe of none", x.wipe(), 0);
        Check.yes(x, "spit", x.many(7), 0);
        for (int i = 0; i < 8; i++) {
            x.shoot(0, 0, 40, 0, 0, 0, 0, 0);
        }
        Check.yes(x, "wipe of 8", x.wipe(), 8);
        Check.yes(x, "spit", x.many(7), 0);
        Check.yes(x, "what stuck goes in again", x.shoot(0, 0, 40, 0, 0, 0, 0, 0), 1);
    }

    public static void main(String[] args) throws Exception {
        Sentences.test(TermsShotsTest.class);
    }
}
