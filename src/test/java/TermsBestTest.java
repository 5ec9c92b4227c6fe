/** The edges that the Terms behind "==== 3." name: ODDS, MEAN, what is best, TURNS, KNOCK, and what the HOLES tell. */
public final class TermsBestTest {
    private static final String BEST = "==== 3.";
    /** TIME 1 to 4 with the hardest PUFF, DROP 0: it STRIKES where it is aimed at, as long as SPIT is below 8. */
    private static final String STRAIGHT = "tube 48 bore 3; far 4; ring 1 worth 1; pea p size 3 weight 1; pea wetty size 3 weight 1 wet;"
        + "pea fat size 4 weight 1; shooter still puff 40 shake 0; shooter shaky puff 40 shake 6; shooter weak puff 1 shake 0;";
    /** PACE is 12 by the PUFF: with PUFF 8 DROP is 1, with PUFF 7 it is 2. */
    private static final String SLOW = "tube 12 bore 3; far 4; ring 1 worth 1; pea p size 3 weight 1; pea heavy size 3 weight 6;"
        + "shooter seven puff 7 shake 0; shooter eight puff 8 shake 0; shooter strong puff 40 shake 0; shooter one puff 1 shake 0;";
    /** SHOTS with POINTS by 1 in 3: x is by the HAND -1 to 1, of it the POINTS are those of y 0. */
    private static final String TWO = "tube 48 bore 3; far 4; ring 2 worth 3; ring 1 worth 7; pea p size 3 weight 1; pea fat size 4 weight 1;"
        + "shooter shaky puff 40 shake 1; shooter still puff 40 shake 0; shooter aside puff 40 shake 0 lean 9 0;";

    private static void mean(PeaTube x, int shooter, int pea, int puff, int y, int top) {
        Check.yes(x, "mean", x.mean(shooter, pea, puff, 3, 0, y));
        Check.fraction(x, "mean at y " + y, top, 1);
    }

    @Sentence(in = BEST, says = "By all that the HAND and the turn may do, as it is now, with so much SPIT")
    private static void oddsAndMeanAreWithTheSpitAsItIs() {
        PeaTube x = Check.withTent(SLOW);
        // PACE 60, TIME 16, DROP 4; with SPIT 1 PACE 30, TIME 32, DROP 16
        mean(x, 2, 0, 5, 4, 1);
        mean(x, 2, 0, 5, 16, 0);
        x.shoot(2, 0, 40, 0, 0, 0, 0, 0);
        mean(x, 2, 0, 5, 4, 0);
        mean(x, 2, 0, 5, 16, 1);
        x.wipe();
        mean(x, 2, 0, 5, 4, 1);
    }

    @Sentence(in = "==== 5.", says = "---- what is best: with the SPIT as it is.")
    private static void whatIsBestIsWithTheSpitAsItIs() {
        PeaTube x = Check.withTent(TWO);
        bestOfAll(x, 7);
        for (int spit = 0; spit < 8; spit++) {
            x.shoot(1, 0, 40, 0, 0, 0, 0, 0);
        }
        // all STICKS; of several it is the least then
        bestOfAll(x, 0);
        Check.yes(x, "series has its own SPIT", x.series(1, 0, 40, 0, 0, 1, 1));
        Check.fraction(x, "series", 7, 1);
        x.wipe();
        bestOfAll(x, 7);
    }

    private static void bestOfAll(PeaTube x, int top) {
        boolean flies = top > 0;
        Check.yes(x, "odds", x.odds(1, 0, 40, 0, 0, 0, 7));
        Check.fraction(x, "odds", flies ? 1 : 0, 1);
        best(x, "best aim's x", x.bestAim(1, 0, 40, 0, 0), flies ? -1 : -20, top, 1);
        best(x, "best puff", x.bestPuff(1, 0, 0, 0, 0), flies ? 2 : 1, top, 1);
        best(x, "best beat", x.bestBeat(0, 0, 40, 0, 0), flies ? 3 : 0, top, 1);
        best(x, "longest", x.longest(1, 0, 2, 0, 0, 0), flies ? 44 : 12, top, 1);
        best(x, "best pea", x.bestPea(1, 40, 0), 0, top, 1);
    }

    @Sentence(in = BEST, says = "ODDS of at least so many POINTS")
    private static void oddsOfAtLeastSoMany() {
        PeaTube x = Check.withTent(TWO);
        // of nine places five are WORTH 7, four are WORTH 3
        int[][] due = {{1, 1, 1}, {3, 1, 1}, {4, 5, 9}, {7, 5, 9}, {8, 0, 1}, {20, 0, 1}};
        for (int[] row : due) {
            Check.yes(x, "odds", x.odds(0, 0, 40, 0, 0, 0, row[0]));
            Check.fraction(x, "odds of at least " + row[0], row[1], row[2]);
        }
        Check.yes(x, "odds", x.odds(1, 0, 40, 0, 2, 0, 3));
        Check.fraction(x, "odds of 3, for sure", 1, 1);
        Check.yes(x, "odds", x.odds(1, 0, 40, 0, 3, 0, 1));
        Check.fraction(x, "odds beyond all", 0, 1);
    }

    @Sentence(in = BEST, says = "the MEAN of POINTS.")
    private static void meanOfPoints() {
        PeaTube x = Check.withTent(TWO);
        Check.yes(x, "mean", x.mean(0, 0, 40, 0, 0, 0));
        Check.fraction(x, "five of 7, four of 3", 47, 9);
        Check.yes(x, "mean", x.mean(1, 0, 40, 0, 0, 0));
        Check.fraction(x, "one of 7", 7, 1);
        Check.yes(x, "mean", x.mean(0, 0, 40, 0, 3, 0));
        Check.fraction(x, "one of 3 in nine", 1, 3);
        Check.yes(x, "mean", x.mean(0, 0, 40, 0, 4, 0));
        Check.fraction(x, "none", 0, 1);
    }

    private static void bestAim(String tent, int dueX, int dueY, int top) {
        PeaTube x = Check.withTent(tent);
        Check.yes(x, "best aim's x of " + tent, x.bestAim(0, 0, 40, 0, 0), dueX);
        Check.fraction(x, "best aim", top, 1);
        Check.yes(x, "best aim's y of " + tent, x.bestAim(0, 0, 40, 0, 1), dueY);
        Check.fraction(x, "best aim", top, 1);
    }

    @Sentence(in = BEST, says = "BEST AIM: the aim with x and y from -20 to 20 with the greatest MEAN")
    private static void bestAimIsFromMinus20To20() {
        // ASIDE 40, DROP 20: the RING of 20 is struck by one aim alone, that of 19 by none
        String shot = "tube 48 bore 3; far 20; pea p size 3 weight 14; shooter s puff 40 shake 0;";
        bestAim(shot + "wind 9; ring 20 worth 5;", -20, 20, 5);
        bestAim(shot + "wind 9 left; ring 20 worth 5;", 20, 20, 5);
        bestAim(shot + "wind 9; ring 19 worth 5;", -20, -20, 0);
        bestAim(shot + "wind 9 left; ring 19 worth 5;", -20, -20, 0);
        // ASIDE 0, DROP 20, LEAN 9 and 9: the RING of 60 is everywhere
        bestAim("tube 48 bore 3; far 4; pea p size 3 weight 1; shooter s puff 40 shake 0 lean 9 9; ring 60 worth 5;", -20, -20, 5);
        bestAim("tube 48 bore 3; far 4; pea p size 3 weight 1; shooter s puff 40 shake 0 lean 9 9; ring 12 worth 5; ring 1 worth 6;", -10, -9, 6);
    }

    @Sentence(in = BEST, says = "with the greatest MEAN")
    private static void bestAimHasTheGreatestMeanOfAll() {
        // shaking and turning; the second one's best is at the edge, so that what the first search left would show
        String[] tents = {"wind 3; ring 25 worth 1; ring 9 worth 4; ring 4 worth 20; pea p size 3 weight 14 crooked 2; shooter s puff 40 shake 6 lean 2 1;",
            "wind 5; ring 9 worth 4; ring 4 worth 20; pea p size 3 weight 14; shooter s puff 40 shake 5;",
            "ring 60 worth 1; ring 20 worth 2; pea p size 3 weight 20 crooked 4; shooter s puff 40 shake 3;",
            "ring 60 worth 1; ring 20 worth 2; pea p size 3 weight 14; shooter s puff 40 shake 3 lean 0 9;",
            "ring 2 worth 1; ring 1 worth 5; pea p size 3 weight 8 crooked 1; shooter s puff 40 shake 1;"};
        for (String tent : tents) {
            String whole = "tube 48 bore 3; far 20;" + tent;
            int bestX = 0;
            int bestY = 0;
            long top = -1;
            long bottom = 1;
            for (int aimX = -20; aimX <= 20; aimX++) {
                PeaTube x = Check.withTent(whole);
                for (int aimY = -20; aimY <= 20; aimY++) {
                    x.mean(0, 0, 40, 0, aimX, aimY);
                    if (x.top() * bottom > top * x.bottom()) {
                        top = x.top();
                        bottom = x.bottom();
                        bestX = aimX;
                        bestY = aimY;
                    }
                }
            }
            PeaTube x = Check.withTent(whole);
            for (int i = 0; i < 2; i++) {
                Check.yes(x, "best aim's x of " + tent, x.bestAim(0, 0, 40, 0, 0), bestX);
                Check.fraction(x, "best aim of " + tent, top, bottom);
                Check.yes(x, "best aim's y of " + tent, x.bestAim(0, 0, 40, 0, 1), bestY);
                Check.fraction(x, "best aim of " + tent, top, bottom);
            }
            Check.due("some mean is above 0", top > 0, true);
        }
    }

    @Sentence(in = BEST, says = "of several the least x, then the least y")
    private static void bestAimOfSeveral() {
        String shot = "tube 48 bore 3; far 4; pea p size 3 weight 1; shooter s puff 40 shake 0; ";
        bestAim(shot + "ring 1 worth 1;", -1, 0, 1);
        bestAim(shot + "ring 25 worth 1;", -20, -15, 1);
        bestAim(shot + "ring 20 worth 1;", -20, 0, 1);
        bestAim(shot + "ring 60 worth 1;", -20, -20, 1);
        bestAim(shot, -20, -20, 0);
        // FIT 9 of BORE 8: it does not go in
        bestAim("ring 60 worth 1; pea p size 9 weight 1; shooter s puff 40 shake 0;", -20, -20, 0);
    }

    private static void best(PeaTube x, String call, int got, int due, int top, int bottom) {
        Check.yes(x, call, got, due);
        Check.fraction(x, call, top, bottom);
    }

    @Sentence(in = BEST, says = "BEST PUFF (1 to the hardest): the greatest MEAN, of several the least.")
    private static void bestPuffFrom1ToTheHardest() {
        PeaTube x = Check.withTent(SLOW);
        best(x, "the hardest of 8", x.bestPuff(1, 0, 0, 0, 0), 8, 1, 1);
        best(x, "of 8 to 40", x.bestPuff(2, 0, 0, 0, 0), 8, 1, 1);
        best(x, "one less than 8: none", x.bestPuff(0, 0, 0, 0, 0), 1, 0, 1);
        best(x, "1 alone", x.bestPuff(3, 0, 0, 0, 0), 1, 0, 1);
        // PACE 24 with PUFF 2: TIME 40, DROP 25
        best(x, "the weakest that flies", x.bestPuff(2, 0, 0, 0, 25), 2, 1, 1);
    }

    @Sentence(in = BEST, says = "BEST BEAT: likewise.")
    private static void bestBeatFrom0To3() {
        PeaTube x = Check.withTent(STRAIGHT);
        best(x, "in the middle", x.bestBeat(1, 0, 40, 0, 0), 3, 1, 1);
        best(x, "2 aside", x.bestBeat(1, 0, 40, 2, 0), 2, 1, 9);
        best(x, "3 aside", x.bestBeat(1, 0, 40, 3, 0), 1, 4, 49);
        best(x, "5 aside", x.bestBeat(1, 0, 40, 5, 0), 0, 5, 169);
        best(x, "8 aside: none", x.bestBeat(1, 0, 40, 8, 0), 0, 0, 1);
        best(x, "all alike", x.bestBeat(0, 0, 40, 0, 0), 0, 1, 1);
    }

    @Sentence(in = BEST, says = "LONGEST: the length of the TUBE (12 to 48, all else as it is) with which it would be the greatest, of several the least.")
    private static void longestFrom12To48() {
        PeaTube x = Check.withTent(SLOW);
        best(x, "12 and more", x.longest(2, 0, 8, 0, 0, 0), 12, 1, 1);
        best(x, "13 and more", x.longest(2, 0, 7, 0, 0, 0), 13, 1, 1);
        best(x, "44 and more", x.longest(2, 0, 2, 0, 0, 0), 44, 1, 1);
        best(x, "48 alone", x.longest(2, 1, 11, 0, 0, 0), 48, 1, 1);
        best(x, "none", x.longest(2, 0, 1, 0, 0, 0), 12, 0, 1);
        Check.yes(x, "the tube is as it was", x.many(0), 12);
        mean(x, 2, 0, 7, 0, 0);
        x.shoot(2, 0, 40, 0, 0, 0, 0, 0);
        best(x, "with spit 1: PACE is half", x.longest(2, 0, 7, 0, 0, 0), 26, 1, 1);
    }

    @Sentence(in = BEST, says = "WIPE EVERY: of n SHOTS with one aim, wiped behind each k-th, SPIT 0 at first: all MEANS together")
    private static void wipeEveryBeginsWithSpit0() {
        PeaTube x = Check.withTent(STRAIGHT);
        x.shoot(0, 0, 40, 0, 0, 0, 0, 0);
        Check.yes(x, "8 shots need no wipe", x.wipeEvery(0, 0, 40, 8, 1), 9);
        Check.yes(x, "series", x.series(0, 0, 40, 0, 0, 8, 30));
        Check.fraction(x, "series", 8, 1);
        Check.yes(x, "series", x.series(0, 0, 40, 0, 0, 9, 30));
        Check.fraction(x, "series: the ninth sticks", 8, 1);
        Check.yes(x, "spit is as it was", x.many(7), 1);
    }

    @Sentence(in = BEST, says = "of k from 1 to 9 that which brings most, if each WIPE costs c sixteenths of a POINT: of several the least.")
    private static void wipeEvery1To9OfSeveralTheLeast() {
        PeaTube x = Check.withTent(STRAIGHT);
        Check.yes(x, "no cost: all to 8 bring 16", x.wipeEvery(0, 0, 40, 16, 0), 1);
        Check.yes(x, "6 to 8 have two wipes", x.wipeEvery(0, 0, 40, 16, 1), 6);
        Check.yes(x, "6 brings 16 less 2, 9 brings 15 less 1", x.wipeEvery(0, 0, 40, 16, 16), 6);
        Check.yes(x, "17 sixteenths: 9 brings more", x.wipeEvery(0, 0, 40, 16, 17), 9);
        Check.yes(x, "a tenth k would be free", x.wipeEvery(0, 0, 40, 9, 99), 5);
        Check.yes(x, "none goes in: none to be wiped", x.wipeEvery(0, 2, 40, 1, 0), 1);
        Check.yes(x, "none goes in, at a cost", x.wipeEvery(0, 2, 40, 3, 1), 4);
        Check.yes(x, "wet ones stick from the fourth on", x.wipeEvery(0, 1, 40, 6, 1), 3);
        // aimed at 0, 0 these two have 3 for sure: 6 brings 48 less 2 WIPES, 9 brings 45 less 1
        PeaTube y = Check.withTent("tube 48 bore 3; far 4; ring 2 worth 3; ring 1 worth 7; pea p size 3 weight 1;"
            + "shooter right puff 40 shake 0 lean 2 0; shooter up puff 40 shake 0 lean 0 2;");
        for (int shooter = 0; shooter < 2; shooter++) {
            Check.yes(y, "48 sixteenths", y.wipeEvery(shooter, 0, 40, 16, 48), 6);
            Check.yes(y, "49 sixteenths", y.wipeEvery(shooter, 0, 40, 16, 49), 9);
        }
    }

    @Sentence(in = BEST, says = "TURNS: two SHOOTERS (their hardest PUFF, aim 0, 0 by BEAT 2, SPIT 0, PEAS told) have n SHOTS each (1 to 5)")
    private static void turnsOf1To5ShotsWithSpit0() {
        PeaTube x = Check.withTent(STRAIGHT);
        for (int shots = 1; shots <= 5; shots++) {
            Check.yes(x, "turns", x.turns(0, 0, 0, 1, shots, 1));
            Check.fraction(x, "a wet pea is as good at spit 0, shots " + shots, 1, 1);
        }
        Check.no(x, "no shots", x.turns(0, 0, 0, 1, 0, 1), 5);
        Check.no(x, "six shots", x.turns(0, 0, 0, 1, 6, 1), 5);
        for (int i = 0; i < 8; i++) {
            x.shoot(0, 0, 40, 0, 0, 0, 0, 0);
        }
        Check.yes(x, "turns", x.turns(0, 0, 0, 1, 5, 1));
        Check.fraction(x, "though all would stick now", 1, 1);
        // shaky has by BEAT 2 the RING of 1 in five of nine; weak has PACE 48, TIME 20, DROP 6
        Check.yes(x, "turns", x.turns(0, 0, 1, 0, 1, 0));
        Check.fraction(x, "against the shaky one", 4, 9);
        Check.yes(x, "turns", x.turns(2, 0, 1, 0, 1, 2));
        Check.fraction(x, "the weak one against the shaky one", 5, 9);
    }

    @Sentence(in = BEST, says = "one after the other: ODDS that the first has more POINTS, that both have as many.")
    private static void turnsOfMoreAndOfAsMany() {
        PeaTube x = Check.withTent(TWO);
        // 7 by 5, 3 by 4 of nine; two SHOTS: 14 by 25, 10 by 40, 6 by 16 of 81
        int[][] one = {{20, 81}, {41, 81}, {20, 81}};
        int more = 25 * (40 + 16) + 40 * 16;
        int alike = 25 * 25 + 40 * 40 + 16 * 16;
        Check.due("all", 2 * more + alike, 6561);
        for (int what = 0; what < 3; what++) {
            Check.yes(x, "turns", x.turns(0, 0, 0, 0, 1, what));
            Check.fraction(x, "turns of one, " + what, one[what][0], one[what][1]);
            Check.yes(x, "turns", x.turns(0, 0, 0, 0, 2, what));
            Check.due("turns of two, " + what, x.top() * 6561, (what == 1 ? alike : more) * x.bottom());
        }
        Check.yes(x, "turns", x.turns(1, 0, 1, 0, 5, 1));
        Check.fraction(x, "always as many", 1, 1);
        // the most there can be: 100 POINTS; 20 by five in nine
        PeaTube y = Check.withTent("tube 48 bore 3; far 4; ring 1 worth 20; pea p size 3 weight 1; shooter still puff 40 shake 0; shooter shaky puff 40 shake 1;");
        long[] most = {59049 - 3125, 3125, 0};
        for (int what = 0; what < 3; what++) {
            Check.yes(y, "turns", y.turns(0, 0, 1, 0, 5, what));
            Check.due("turns of 100 points, " + what, y.top() * 59049, most[what] * y.bottom());
            Check.yes(y, "turns", y.turns(1, 0, 0, 0, 5, 2 - what));
            Check.due("turns against 100 points, " + what, y.top() * 59049, most[what] * y.bottom());
        }
        Check.yes(x, "turns", x.turns(1, 1, 2, 0, 5, 1));
        Check.fraction(x, "both have none", 1, 1);
        Check.yes(x, "turns", x.turns(1, 1, 2, 0, 5, 0));
        Check.fraction(x, "none has more", 0, 1);
    }

    private static void four(PeaTube x, int a, int b, int c, int d) {
        x.tray(0, 0, 4);
        int[] four = {a, b, c, d};
        for (int i = 0; i < 4; i++) {
            x.write(0, i, four[i]);
        }
    }

    @Sentence(in = BEST, says = "KNOCK: four of them so, the first against the second, the third against the fourth, then the two that won, by one SHOT each time till one has more: ODDS that one of them wins it all")
    private static void knockTillOneHasMore() {
        PeaTube x = Check.withTent(TWO);
        four(x, 0, 0, 0, 0);
        for (int k = 0; k < 4; k++) {
            Check.yes(x, "knock", x.knock(0, 0, k));
            Check.fraction(x, "four alike, though often as many", 1, 4);
        }
        // still has 7 for sure: the shaky one never has more, but often as many
        four(x, 0, 1, 0, 0);
        for (int k = 0; k < 4; k++) {
            Check.yes(x, "knock", x.knock(0, 0, k));
            Check.fraction(x, "the still one wins, " + k, k == 1 ? 1 : 0, 1);
        }
    }

    @Sentence(in = BEST, says = "it can't be, if of these couples, or of that one and one of the other couple, none can ever have more.")
    private static void knockThatCannotBe() {
        PeaTube x = Check.withTent(TWO);
        four(x, 1, 1, 0, 0);
        for (int k = 0; k < 4; k++) {
            Check.no(x, "the first and the second are alike for ever: " + k, x.knock(0, 0, k), 9);
        }
        four(x, 0, 0, 1, 1);
        for (int k = 0; k < 4; k++) {
            Check.no(x, "the third and the fourth are: " + k, x.knock(0, 0, k), 9);
        }
        four(x, 1, 0, 2, 1);
        int[] due = {9, 0, 0, 9};
        for (int k = 0; k < 4; k++) {
            Check.due("the first and the fourth are: " + k, x.knock(0, 0, k), due[k] == 0);
            Check.due("status " + k, x.status(), due[k]);
        }
        four(x, 0, 1, 1, 2);
        int[] dueInside = {0, 9, 9, 0};
        for (int k = 0; k < 4; k++) {
            Check.due("the second and the third are: " + k, x.knock(0, 0, k), dueInside[k] == 0);
            Check.due("status " + k, x.status(), dueInside[k]);
        }
        four(x, 0, 0, 0, 0);
        Check.no(x, "none goes in", x.knock(0, 1, 0), 9);
    }

    /** Strikes there for sure. */
    private static void strike(PeaTube x, int shooter, int pea, int toX, int toY) {
        x.wipe();
        x.shoot(shooter, pea, 40, toX, toY, 0, 0, 0);
        Check.yes(x, "hole's x", x.hole(x.many(8) - 1, 0), toX);
        Check.yes(x, "hole's y", x.hole(x.many(8) - 1, 1), toY);
    }

    @Sentence(in = BEST, says = "LEAN of HOLES: the mean of x, of y, of those of a SHOOTER, a PEA (NONE: of all).")
    private static void leanOfAnyWithNone() {
        PeaTube x = Check.withTent(STRAIGHT);
        strike(x, 0, 0, 3, -1);
        strike(x, 0, 1, 0, -2);
        strike(x, 1, 0, -60, 60);
        int[][] due = {{-1, -1, -19, 19}, {0, -1, 3, -3}, {1, -1, -60, 60}, {-1, 0, -57, 59}, {-1, 1, 0, -2}, {0, 0, 3, -1}, {0, 1, 0, -2}, {1, 0, -60, 60}};
        int[] bottoms = {1, 2, 1, 2, 1, 1, 1, 1};
        for (int i = 0; i < due.length; i++) {
            int[] row = due[i];
            for (int what = 0; what < 2; what++) {
                Check.yes(x, "lean", x.lean(row[0], row[1], what));
                Check.fraction(x, "lean(" + row[0] + ", " + row[1] + ", " + what + ")", row[2 + what], bottoms[i]);
            }
        }
        Check.no(x, "of no such couple", x.lean(1, 1, 0), 8);
        Check.no(x, "of one without holes", x.lean(2, -1, 0), 8);
        Check.no(x, "-2 is not NONE", x.lean(-2, -1, 0), 2);
        Check.no(x, "-2 is not NONE", x.lean(-1, -2, 0), 2);
    }

    @Sentence(in = BEST, says = "SPREAD: the mean of x times x and y times y together, less the squares of both means.")
    private static void spreadOfOneAndOfSeveral() {
        PeaTube x = Check.withTent(STRAIGHT);
        strike(x, 0, 0, 60, -60);
        Check.yes(x, "lean", x.lean(-1, -1, 2));
        Check.fraction(x, "spread of one", 0, 1);
        strike(x, 0, 0, 60, -60);
        Check.yes(x, "lean", x.lean(-1, -1, 2));
        Check.fraction(x, "spread of two alike", 0, 1);
        strike(x, 0, 0, -60, 60);
        // means 20 and -20: 7200 less 800
        Check.yes(x, "lean", x.lean(-1, -1, 2));
        Check.fraction(x, "spread of three", 6400, 1);
        strike(x, 0, 0, -60, 59);
        // sums 0 and -1, squares 3 by 7200 and 7081
        Check.yes(x, "lean", x.lean(-1, -1, 2));
        Check.fraction(x, "spread of four", 28681L * 4 - 1, 16);
    }

    @Sentence(in = BEST, says = "WHOSE a HOLE at x, y is: the SHOOTER whose HOLES' mean is the nearest (by the square), of several the first.")
    private static void whoseOfSeveralTheFirst() {
        PeaTube x = Check.withTent(STRAIGHT);
        strike(x, 1, 0, -10, 0);
        Check.yes(x, "one alone, from far", x.whose(99, -99), 1);
        strike(x, 0, 0, 10, 1);
        strike(x, 0, 0, 10, -1);
        Check.yes(x, "as near to both", x.whose(0, 7), 0);
        Check.yes(x, "nearer to the second", x.whose(-1, 99), 1);
        Check.yes(x, "nearer to the first", x.whose(1, -99), 0);
        Check.yes(x, "far above the second", x.whose(-10, 90), 1);
        Check.yes(x, "at the second", x.whose(-10, 0), 1);
        PeaTube y = Check.withTent(STRAIGHT);
        strike(y, 1, 0, 3, -30);
        strike(y, 0, 0, 3, 30);
        strike(y, 0, 0, 5, 34);
        // the means are (4, 32) and (3, -30)
        Check.yes(y, "below", y.whose(3, -9), 1);
        Check.yes(y, "above", y.whose(3, 9), 0);
        Check.yes(y, "at (3, 1) 962 and 961", y.whose(3, 1), 1);
        Check.yes(y, "at (3, 2) 901 and 1024", y.whose(3, 2), 0);
        Check.yes(y, "on the left", y.whose(-99, -9), 1);
    }

    @Sentence(in = BEST, says = "WORST: of SHOOTERS (what 0), PEAS (1) with HOLES that with the greatest SPREAD, of several the first.")
    private static void worstOfSeveralTheFirst() {
        PeaTube x = Check.withTent(STRAIGHT);
        strike(x, 1, 1, 5, 5);
        Check.yes(x, "the one with holes, shooters", x.worst(0), 1);
        Check.yes(x, "the one with holes, peas", x.worst(1), 1);
        strike(x, 0, 0, 5, 5);
        Check.yes(x, "two with spread 0, shooters", x.worst(0), 0);
        Check.yes(x, "two with spread 0, peas", x.worst(1), 0);
        strike(x, 1, 1, 5, 7);
        Check.yes(x, "spread 1 against 0, shooters", x.worst(0), 1);
        Check.yes(x, "spread 1 against 0, peas", x.worst(1), 1);
        strike(x, 0, 0, 3, 5);
        Check.yes(x, "spread 1 both, shooters", x.worst(0), 0);
        Check.yes(x, "spread 1 both, peas", x.worst(1), 0);
    }

    @Sentence(in = BEST, says = "SIEVE of holes so wide (1 to 12): the set of PEAS that are not larger.")
    private static void sieveFrom1To12() {
        StringBuilder tent = new StringBuilder("tube 24 bore 3;");
        int[] sizes = {12, 1, 6, 5, 7, 12, 6, 11};
        for (int i = 0; i < 8; i++) {
            tent.append("pea p").append((char) ('a' + i)).append(" size ").append(sizes[i]).append(" weight 1;");
        }
        PeaTube x = Check.withTent(tent.toString());
        for (int wide = 1; wide <= 12; wide++) {
            int due = 0;
            for (int i = 0; i < 8; i++) {
                due += sizes[i] <= wide ? 1 << i : 0;
            }
            Check.yes(x, "sieve(" + wide + ")", x.sieve(wide), due);
        }
        Check.yes(x, "the widest", x.sieve(12), 255);
        Check.yes(x, "the narrowest", x.sieve(1), 2);
        Check.no(x, "sieve(0)", x.sieve(0), 5);
        Check.no(x, "sieve(13)", x.sieve(13), 5);
        PeaTube y = new PeaTube();
        Check.yes(y, "no peas", y.sieve(12), 0);
    }

    @Sentence(in = BEST, says = "SAME: how many couples of HOLES are one and the same place.")
    private static void sameCouples() {
        PeaTube x = Check.withTent(STRAIGHT);
        Check.yes(x, "none", x.same(), 0);
        int[] due = {0, 1, 3, 6};
        for (int i = 0; i < 4; i++) {
            strike(x, i % 2, i / 2, 4, -4);
            Check.yes(x, "one place " + (i + 1) + " times", x.same(), due[i]);
        }
        strike(x, 0, 0, -4, 4);
        strike(x, 0, 0, 4, 4);
        Check.yes(x, "others", x.same(), 6);
        strike(x, 0, 0, -4, 4);
        Check.yes(x, "a second place", x.same(), 7);
        for (int holes = 7; holes < 60; holes++) {
            strike(x, 0, 0, 4, -4);
        }
        Check.yes(x, "57 and 2 of 60", x.same(), 57 * 56 / 2 + 1);
    }

    public static void main(String[] args) throws Exception {
        Sentences.test(TermsBestTest.class);
    }
}
