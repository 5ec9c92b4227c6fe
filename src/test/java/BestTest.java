/** Promises 24 to 34: odds, mean, what is best, series, wipeEvery, turns, knock, worked out by hand. */
public final class BestTest {
    /** All fly straight: TIME 1 with the hardest puff. Of nine places around the middle 5 are worth 7, 4 are worth 3. */
    private static final String STRAIGHT = "tube 48 bore 3; far 4; ring 2 worth 3; ring 1 worth 7;"
        + "pea big size 4 weight 1; pea loose size 2 weight 1; pea fit size 3 weight 1;"
        + "shooter shaky puff 40 shake 1; shooter calm puff 40 shake 0; shooter leans puff 40 shake 1 lean 1 0;"
        + "shooter weak puff 1 shake 6;";

    private static void oddsAndMeans() {
        PeaTube x = Check.withTent(STRAIGHT);
        int[] tops = {1, 1, 1, 5, 5, 5, 5, 0, 0};
        int[] bottoms = {1, 1, 1, 9, 9, 9, 9, 1, 1};
        for (int i = 0; i < 9; i++) {
            Check.yes(x, "odds", x.odds(0, 2, 40, 2, 0, 0, i + 1));
            Check.fraction(x, "odds of " + (i + 1), tops[i], bottoms[i]);
        }
        Check.yes(x, "odds of 20", x.odds(0, 2, 40, 2, 0, 0, 20));
        Check.fraction(x, "odds of 20", 0, 1);
        Check.yes(x, "mean", x.mean(0, 2, 40, 2, 0, 0));
        Check.fraction(x, "mean", 47, 9);
        Check.yes(x, "mean", x.mean(0, 2, 40, 3, 0, 0));
        Check.fraction(x, "mean, the hand still", 7, 1);
        Check.yes(x, "mean", x.mean(0, 0, 40, 3, 0, 0));
        Check.fraction(x, "mean of one that does not go in", 0, 1);
        Check.yes(x, "mean", x.mean(3, 2, 1, 0, 0, 0));
        // PACE 48, TIME 20, DROP 6: y is -12 to 0: of 169 the row 0 (5), -1 (5), -2 (1)
        Check.fraction(x, "mean of the weak one", 7 * 4 + 3 * 5, 169);
        for (int i = 0; i < 8; i++) {
            x.shoot(1, 2, 40, 0, 0, 0, 0, 0);
        }
        Check.yes(x, "mean", x.mean(0, 2, 40, 2, 0, 0));
        Check.fraction(x, "mean of one that sticks", 0, 1);
        wrongShots(x);
        PeaTube y = Check.withTent(Check.FAIR);
        Check.yes(y, "odds by the turn", y.odds(0, 0, 30, 3, 0, 0, 5));
        Check.fraction(y, "odds by the turn", 1, 2);
        Check.yes(y, "mean by the turn", y.mean(0, 0, 30, 3, 0, 0));
        Check.fraction(y, "mean by the turn", 4, 1);
    }

    private static void wrongShots(PeaTube x) {
        Check.no(x, "odds of 0", x.odds(0, 2, 40, 2, 0, 0, 0), 5);
        Check.no(x, "odds of 21", x.odds(0, 2, 40, 2, 0, 0, 21), 5);
        Check.no(x, "odds with puff 41", x.odds(0, 2, 41, 2, 0, 0, 1), 5);
        Check.no(x, "odds harder than can be", x.odds(3, 2, 2, 2, 0, 0, 1), 5);
        Check.no(x, "odds of no shooter", x.odds(4, 2, 2, 2, 0, 0, 0), 2);
        Check.no(x, "odds of no pea", x.odds(3, 3, 2, 2, 0, 0, 0), 2);
        Check.no(x, "odds on beat 4", x.odds(0, 2, 2, 4, 0, 0, 1), 5);
        Check.no(x, "mean on beat -1", x.mean(0, 2, 2, -1, 0, 0), 5);
        Check.no(x, "mean with aim -61", x.mean(0, 2, 2, 0, -61, 0), 5);
        Check.no(x, "mean with aim 61", x.mean(0, 2, 2, 0, 0, 61), 5);
        Check.no(x, "mean harder than can be", x.mean(3, 2, 2, 0, 0, 0), 5);
        Check.no(x, "mean of no pea", x.mean(3, -1, 2, 0, 0, 0), 2);
        Check.no(x, "bestAim of no shooter", x.bestAim(-1, 2, 2, 0, 9), 2);
        Check.no(x, "bestAim what 2", x.bestAim(0, 2, 2, 0, 2), 5);
        Check.no(x, "bestAim beat 4", x.bestAim(0, 2, 2, 4, 0), 5);
        Check.no(x, "bestAim harder than can be", x.bestAim(3, 2, 2, 0, 0), 5);
        Check.no(x, "bestPuff of no pea", x.bestPuff(0, 3, 9, 0, 0), 2);
        Check.no(x, "bestPuff beat 4", x.bestPuff(0, 2, 4, 0, 0), 5);
        Check.no(x, "bestPuff aim 61", x.bestPuff(0, 2, 0, 61, 0), 5);
        Check.no(x, "bestBeat of no shooter", x.bestBeat(4, 2, 1, 0, 0), 2);
        Check.no(x, "bestBeat puff 0", x.bestBeat(0, 2, 0, 0, 0), 5);
        Check.no(x, "bestBeat aim 61", x.bestBeat(0, 2, 1, 0, -61), 5);
        Check.no(x, "longest of no pea", x.longest(0, 3, 1, 0, 0, 0), 2);
        Check.no(x, "longest puff 41", x.longest(0, 2, 41, 0, 0, 0), 5);
        Check.no(x, "bestPea of no shooter", x.bestPea(4, 1, 0), 2);
        Check.no(x, "bestPea harder than can be", x.bestPea(3, 2, 0), 5);
        Check.no(x, "bestPea beat 4", x.bestPea(3, 1, 4), 5);
        Check.no(x, "series of no shooter", x.series(4, 2, 1, 0, 0, 0, 0), 2);
        Check.no(x, "series of 0", x.series(0, 2, 1, 0, 0, 0, 1), 5);
        Check.no(x, "series of 31", x.series(0, 2, 1, 0, 0, 31, 1), 5);
        Check.no(x, "series wiped behind each 0th", x.series(0, 2, 1, 0, 0, 1, 0), 5);
        Check.no(x, "series wiped behind each 31st", x.series(0, 2, 1, 0, 0, 1, 31), 5);
        Check.no(x, "series aim 61", x.series(0, 2, 1, 0, 61, 1, 1), 5);
        Check.no(x, "wipeEvery of no pea", x.wipeEvery(0, 3, 1, 0, 0), 2);
        Check.no(x, "wipeEvery of 31", x.wipeEvery(0, 2, 1, 31, 0), 5);
        Check.no(x, "wipeEvery of 0", x.wipeEvery(0, 2, 1, 0, 0), 5);
        Check.no(x, "wipeEvery cost 100", x.wipeEvery(0, 2, 1, 1, 100), 5);
        Check.no(x, "wipeEvery cost -1", x.wipeEvery(0, 2, 1, 1, -1), 5);
        Check.no(x, "wipeEvery harder than can be", x.wipeEvery(3, 2, 2, 1, 0), 5);
    }

    private static void best() {
        PeaTube x = Check.withTent(STRAIGHT);
        Check.yes(x, "best aim's x", x.bestAim(0, 2, 40, 3, 0), -1);
        Check.fraction(x, "best aim", 7, 1);
        Check.yes(x, "best aim's y", x.bestAim(0, 2, 40, 3, 1), 0);
        Check.yes(x, "best aim's x, shaking", x.bestAim(0, 2, 40, 2, 0), 0);
        Check.fraction(x, "best aim, shaking", 47, 9);
        Check.yes(x, "best aim's x of one that leans", x.bestAim(2, 2, 40, 2, 0), -1);
        Check.yes(x, "best aim's x of one that does not go in", x.bestAim(2, 0, 40, 2, 0), -20);
        Check.fraction(x, "best aim of none", 0, 1);
        Check.yes(x, "best aim's y of one that does not go in", x.bestAim(2, 0, 40, 2, 1), -20);
        Check.yes(x, "best puff", x.bestPuff(0, 2, 3, 0, 0), 2);
        Check.fraction(x, "best puff", 7, 1);
        Check.yes(x, "best puff of none", x.bestPuff(0, 0, 3, 0, 0), 1);
        Check.fraction(x, "best puff of none", 0, 1);
        Check.yes(x, "best beat", x.bestBeat(0, 2, 40, 0, 0), 3);
        Check.fraction(x, "best beat", 7, 1);
        Check.yes(x, "best beat from aside", x.bestBeat(0, 2, 40, 3, 0), 0);
        Check.fraction(x, "best beat from aside", 1, 3);
        Check.yes(x, "longest", x.longest(0, 2, 2, 3, 0, 0), 44);
        Check.fraction(x, "longest", 7, 1);
        Check.yes(x, "longest at the hardest", x.longest(0, 2, 40, 3, 0, 0), 12);
        Check.yes(x, "inches are as they were", x.many(0), 48);
        Check.yes(x, "best pea, softly", x.bestPea(0, 2, 3), 2);
        Check.fraction(x, "best pea, softly", 7, 1);
        Check.yes(x, "best pea of several", x.bestPea(0, 40, 3), 1);
        PeaTube y = Check.withTent("shooter s puff 9 shake 0;");
        Check.no(y, "no peas, wrong puff", y.bestPea(0, 10, 0), 5);
        Check.no(y, "no peas", y.bestPea(0, 9, 0), 8);
    }

    /** The greatest shake there is, with and without a turn: the aims around the middle by counting alone. */
    private static void bestAimOfTheShakiest() {
        PeaTube x = Check.withTent("tube 48 bore 3; far 4; ring 3 worth 1; ring 1 worth 20; pea p size 3 weight 1;"
            + "pea crook size 3 weight 20 crooked 4; shooter s puff 40 shake 6 lean 2 1;");
        for (int pea = 0; pea < 2; pea++) {
            int bestX = 0;
            int bestY = 0;
            int most = -1;
            int drop = x.flight(pea, 40, 0, 1);
            int off = x.flight(pea, 40, 0, 3);
            for (int aimX = -20; aimX <= 20; aimX++) {
                for (int aimY = -20; aimY <= 20; aimY++) {
                    int sum = 0;
                    for (int i = 0; i < 169; i++) {
                        int y = aimY + 1 - drop + i % 13 - 6;
                        int at = aimX + 2 + i / 13 - 6;
                        sum += worth(at - off, y) + worth(at + off, y);
                    }
                    if (sum > most) {
                        most = sum;
                        bestX = aimX;
                        bestY = aimY;
                    }
                }
            }
            int common = java.math.BigInteger.valueOf(most).gcd(java.math.BigInteger.valueOf(338)).intValue();
            Check.yes(x, "best aim's x of pea " + pea, x.bestAim(0, pea, 40, 0, 0), bestX);
            Check.fraction(x, "best aim of pea " + pea, most / common, 338 / common);
            Check.yes(x, "best aim's y of pea " + pea, x.bestAim(0, pea, 40, 0, 1), bestY);
            Check.due("pea " + pea + " is crooked", off > 0, pea == 1);
        }
    }

    private static int worth(int x, int y) {
        int square = x * x + y * y;
        return square <= 1 ? 20 : square <= 9 ? 1 : 0;
    }

    private static void turnsOfTheMostPoints() {
        PeaTube x = Check.withTent("tube 48 bore 3; far 4; ring 1 worth 20; pea p size 3 weight 1;"
            + "shooter calm puff 40 shake 0; shooter shaky puff 40 shake 1;");
        // shaky has 20 by 5 in 9
        Check.yes(x, "turns", x.turns(0, 0, 1, 0, 5, 1));
        Check.fraction(x, "as many: 100 each", 3125, 59049);
        Check.yes(x, "turns", x.turns(0, 0, 1, 0, 5, 0));
        Check.fraction(x, "more: 100 against less", 59049 - 3125, 59049);
        Check.yes(x, "turns", x.turns(0, 0, 1, 0, 5, 2));
        Check.fraction(x, "less", 0, 1);
        Check.yes(x, "turns", x.turns(1, 0, 0, 0, 5, 2));
        Check.fraction(x, "the second has more", 59049 - 3125, 59049);
    }

    private static void seriesAndWipes() {
        PeaTube x = Check.withTent(STRAIGHT);
        x.shoot(1, 2, 40, 0, 0, 0, 0, 0);
        Check.yes(x, "series", x.series(0, 2, 40, 0, 0, 1, 1));
        Check.fraction(x, "series of 1", 47, 9);
        Check.yes(x, "series", x.series(0, 2, 40, 0, 0, 8, 30));
        Check.fraction(x, "series of 8, from spit 0", 376, 9);
        Check.yes(x, "series", x.series(0, 2, 40, 0, 0, 30, 30));
        Check.fraction(x, "series that sticks", 376, 9);
        Check.yes(x, "series", x.series(0, 2, 40, 0, 0, 10, 8));
        Check.fraction(x, "series wiped behind the 8th", 470, 9);
        Check.yes(x, "series", x.series(0, 2, 40, 0, 0, 10, 9));
        Check.fraction(x, "series wiped behind the 9th", 47, 1);
        Check.yes(x, "spit is as it was", x.many(7), 1);
    }

    private static void wipes() {
        PeaTube x = Check.withTent(STRAIGHT);
        x.shoot(1, 2, 40, 0, 0, 0, 0, 0);
        x.mean(0, 2, 40, 2, 0, 0);
        Check.yes(x, "wipes that cost nothing", x.wipeEvery(0, 2, 40, 16, 0), 1);
        Check.yes(x, "wipes that cost: two of them are enough", x.wipeEvery(0, 2, 40, 16, 1), 6);
        Check.yes(x, "wipes that cost more than a shot", x.wipeEvery(0, 2, 40, 16, 99), 9);
        Check.yes(x, "a wipe behind the last shot costs, too", x.wipeEvery(0, 2, 40, 8, 1), 9);
        Check.yes(x, "one shot", x.wipeEvery(0, 2, 40, 1, 1), 2);
        Check.yes(x, "one shot, no cost", x.wipeEvery(0, 2, 40, 1, 0), 1);
        Check.fraction(x, "wipeEvery tells no fraction", 47, 9);
        Check.yes(x, "what does not go in", x.wipeEvery(0, 0, 40, 30, 0), 1);
        Check.yes(x, "what does not go in, at a cost", x.wipeEvery(0, 0, 40, 8, 5), 9);
    }

    private static void turns() {
        PeaTube x = Check.withTent(STRAIGHT);
        long[][] due = {{20, 81}, {41, 81}, {20, 81}};
        long[][] dueTwice = {{680, 2187}, {827, 2187}, {680, 2187}};
        long[][] dueCalm = {{0, 1}, {5, 9}, {4, 9}};
        for (int what = 0; what < 3; what++) {
            Check.yes(x, "turns", x.turns(0, 2, 0, 2, 1, what));
            Check.fraction(x, "turns of one " + what, due[what][0], due[what][1]);
            Check.yes(x, "turns", x.turns(0, 2, 0, 1, 2, what));
            Check.fraction(x, "turns of two " + what, dueTwice[what][0], dueTwice[what][1]);
            Check.yes(x, "turns", x.turns(0, 2, 1, 2, 1, what));
            Check.fraction(x, "turns against the calm one " + what, dueCalm[what][0], dueCalm[what][1]);
        }
        Check.yes(x, "turns", x.turns(0, 2, 1, 2, 5, 1));
        Check.fraction(x, "turns of five", 3125, 59049);
        Check.yes(x, "turns", x.turns(0, 2, 1, 0, 5, 0));
        Check.fraction(x, "turns against a pea that does not go in", 1, 1);
        x.shoot(1, 2, 40, 0, 0, 0, 0, 0);
        Check.yes(x, "turns", x.turns(2, 2, 0, 2, 1, 0));
        Check.fraction(x, "turns with spit about", 16, 81);
        Check.no(x, "no first", x.turns(4, 2, 0, 2, 0, 0), 2);
        Check.no(x, "no second", x.turns(0, 2, -1, 2, 0, 0), 2);
        Check.no(x, "no pea of the first", x.turns(0, 3, 0, 2, 1, 9), 2);
        Check.no(x, "no pea of the second", x.turns(0, 2, 0, -1, 1, 0), 2);
        Check.no(x, "no shots", x.turns(0, 2, 0, 2, 0, 0), 5);
        Check.no(x, "six shots", x.turns(0, 2, 0, 2, 6, 0), 5);
        Check.no(x, "what 3", x.turns(0, 2, 0, 2, 1, 3), 5);
    }

    private static void four(PeaTube x, int a, int b, int c, int d) {
        x.write(0, 0, a);
        x.write(0, 1, b);
        x.write(0, 2, c);
        x.write(0, 3, d);
    }

    private static void knocks() {
        PeaTube x = Check.withTent(STRAIGHT);
        Check.no(x, "no tray", x.knock(4, 9, 9), 1);
        Check.no(x, "a missing tray", x.knock(0, 9, 9), 3);
        x.tray(0, 3, 3);
        Check.no(x, "too few numbers", x.knock(0, 9, 9), 4);
        x.tray(0, 3, 5);
        four(x, 0, 0, 0, 4);
        x.write(0, 4, 99);
        Check.no(x, "a number that is no shooter", x.knock(0, 2, 9), 2);
        x.write(0, 3, 1L << 32);
        Check.no(x, "a large number that is no shooter", x.knock(0, 2, 9), 2);
        x.write(0, 3, -1);
        Check.no(x, "-1 is no shooter", x.knock(0, 2, 9), 2);
        four(x, 0, 0, 0, 0);
        Check.no(x, "no pea", x.knock(0, 3, 9), 2);
        Check.no(x, "k is 4", x.knock(0, 2, 4), 5);
        Check.no(x, "k is -1", x.knock(0, 2, -1), 5);
        for (int k = 0; k < 4; k++) {
            Check.yes(x, "knock", x.knock(0, 2, k));
            Check.fraction(x, "knock of four alike " + k, 1, 4);
        }
        four(x, 0, 2, 0, 2);
        // shaky beats leans by 33 in 49; 33/49 (33/49 1/2 + 16/49 33/49) and 16/49 (33/49 16/49 + 16/49 1/2)
        long[][] due = {{88209, 235298}, {14720, 117649}, {88209, 235298}, {14720, 117649}};
        for (int k = 0; k < 4; k++) {
            Check.yes(x, "knock", x.knock(0, 2, k));
            Check.fraction(x, "knock " + k, due[k][0], due[k][1]);
        }
        four(x, 0, 1, 0, 0);
        long[] sure = {0, 1, 0, 0};
        for (int k = 0; k < 4; k++) {
            Check.yes(x, "knock", x.knock(0, 2, k));
            Check.fraction(x, "knock with the calm one " + k, sure[k], 1);
        }
        four(x, 1, 1, 0, 0);
        Check.no(x, "alike for ever: the first couple", x.knock(0, 2, 2), 9);
        Check.no(x, "alike for ever: the first couple", x.knock(0, 2, 0), 9);
        four(x, 0, 0, 1, 1);
        Check.no(x, "alike for ever: the second couple", x.knock(0, 2, 0), 9);
        four(x, 0, 1, 1, 0);
        Check.no(x, "alike for ever: that one and one of the other couple", x.knock(0, 2, 1), 9);
        Check.no(x, "alike for ever: likewise", x.knock(0, 2, 2), 9);
        Check.yes(x, "not for the others", x.knock(0, 2, 0));
        Check.fraction(x, "knock", 0, 1);
        four(x, 0, 0, 0, 0);
        Check.no(x, "none has points", x.knock(0, 0, 0), 9);
    }

    public static void main(String[] args) {
        oddsAndMeans();
        best();
        bestAimOfTheShakiest();
        turnsOfTheMostPoints();
        seriesAndWipes();
        wipes();
        turns();
        knocks();
        Check.end();
    }
}
