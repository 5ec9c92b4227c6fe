/** Promises 35 to 40: hole, lean, whose, worst, sieve, same. */
public final class HolesTest {
    /** Each SHOT strikes where it is aimed at, as long as SPIT is below 8. */
    private static final String PLAIN = "tube 48 bore 3; far 4; ring 60 worth 1;"
        + "pea p size 3 weight 1; pea q size 2 weight 1; pea r size 12 weight 1;"
        + "shooter a puff 40 shake 0; shooter b puff 40 shake 0; shooter c puff 40 shake 0;";

    private static void shoot(PeaTube x, int shooter, int pea, int toX, int toY) {
        x.wipe();
        Check.due("shoot", x.shoot(shooter, pea, 40, toX, toY, 0, 0, 0) >= 0, true);
        Check.yes(x, "hole's x", x.hole(x.many(8) - 1, 0), toX);
        Check.yes(x, "hole's y", x.hole(x.many(8) - 1, 1), toY);
    }

    private static void none() {
        PeaTube x = Check.withTent(PLAIN);
        Check.no(x, "hole(0, 4)", x.hole(0, 4), 5);
        Check.no(x, "hole(0, -1)", x.hole(0, -1), 5);
        Check.no(x, "hole(0, 0)", x.hole(0, 0), 8);
        Check.no(x, "hole(-1, 0)", x.hole(-1, 0), 8);
        Check.no(x, "lean(3, 0, 9)", x.lean(3, 0, 9), 2);
        Check.no(x, "lean(0, 3, 9)", x.lean(0, 3, 9), 2);
        Check.no(x, "lean(-2, 0, 0)", x.lean(-2, 0, 0), 2);
        Check.no(x, "lean(0, -2, 0)", x.lean(0, -2, 0), 2);
        Check.no(x, "lean(-1, -1, 3)", x.lean(-1, -1, 3), 5);
        Check.no(x, "lean(-1, -1, -1)", x.lean(-1, -1, -1), 5);
        Check.no(x, "lean(-1, -1, 2)", x.lean(-1, -1, 2), 8);
        Check.no(x, "whose(100, 0)", x.whose(100, 0), 5);
        Check.no(x, "whose(0, -100)", x.whose(0, -100), 5);
        Check.no(x, "whose(99, -99)", x.whose(99, -99), 8);
        Check.no(x, "worst(2)", x.worst(2), 5);
        Check.no(x, "worst(-1)", x.worst(-1), 5);
        Check.no(x, "worst(0)", x.worst(0), 8);
        Check.no(x, "worst(1)", x.worst(1), 8);
        Check.yes(x, "same()", x.same(), 0);
    }

    private static void leans() {
        PeaTube x = Check.withTent(PLAIN);
        shoot(x, 0, 0, 2, 0);
        shoot(x, 0, 1, 4, -1);
        shoot(x, 1, 0, -7, 5);
        Check.yes(x, "shooter", x.hole(2, 2), 1);
        Check.yes(x, "pea", x.hole(1, 3), 1);
        Check.no(x, "hole(3, 0)", x.hole(3, 0), 8);
        long[][][] due = {
            {{-1, -1}, {-1, 3}, {4, 3}, {268, 9}},
            {{0, -1}, {3, 1}, {-1, 2}, {5, 4}},
            {{-1, 0}, {-5, 2}, {5, 2}, {53, 2}},
            {{0, 1}, {4, 1}, {-1, 1}, {0, 1}},
            {{1, 0}, {-7, 1}, {5, 1}, {0, 1}}};
        for (long[][] row : due) {
            for (int what = 0; what < 3; what++) {
                String call = "lean(" + row[0][0] + ", " + row[0][1] + ", " + what + ")";
                Check.yes(x, call, x.lean((int) row[0][0], (int) row[0][1], what));
                Check.fraction(x, call, row[1 + what][0], row[1 + what][1]);
            }
        }
        Check.no(x, "lean of none", x.lean(2, -1, 0), 8);
        Check.no(x, "lean of no such couple", x.lean(1, 1, 0), 8);
    }

    private static void whoseAndWorst() {
        PeaTube x = Check.withTent(PLAIN);
        shoot(x, 2, 1, 9, 0);
        Check.yes(x, "whose, with one alone", x.whose(-99, 99), 2);
        Check.yes(x, "worst of one", x.worst(0), 2);
        Check.yes(x, "worst pea of one", x.worst(1), 1);
        shoot(x, 1, 0, 2, 0);
        shoot(x, 1, 0, 4, 0);
        Check.yes(x, "whose by two", x.whose(6, 0), 1);
        Check.yes(x, "whose nearer to the other", x.whose(7, 0), 2);
        Check.yes(x, "whose above the middle", x.whose(6, 50), 1);
        Check.yes(x, "worst", x.worst(0), 1);
        Check.yes(x, "worst pea", x.worst(1), 0);
        shoot(x, 2, 1, 11, 0);
        Check.yes(x, "worst of two alike", x.worst(0), 1);
        Check.yes(x, "worst pea of two alike", x.worst(1), 0);
        shoot(x, 2, 0, 11, 3);
        Check.yes(x, "worst", x.worst(0), 2);
        Check.yes(x, "worst pea", x.worst(1), 0);
    }

    private static void sieves() {
        PeaTube x = Check.withTent("pea a size 3 weight 1; pea b size 1 weight 1; pea c size 12 weight 1; pea d size 3 weight 1;");
        int[] sets = {2, 2, 11, 11, 11, 11, 11, 11, 11, 11, 11, 15};
        for (int wide = 1; wide <= 12; wide++) {
            Check.yes(x, "sieve(" + wide + ")", x.sieve(wide), sets[wide - 1]);
        }
        Check.no(x, "sieve(0)", x.sieve(0), 5);
        Check.no(x, "sieve(13)", x.sieve(13), 5);
    }

    private static void sames() {
        PeaTube x = Check.withTent(PLAIN);
        shoot(x, 0, 0, 5, 6);
        shoot(x, 1, 1, 5, 6);
        Check.yes(x, "same()", x.same(), 1);
        shoot(x, 0, 1, 6, 5);
        Check.yes(x, "same()", x.same(), 1);
        shoot(x, 2, 0, 5, 6);
        Check.yes(x, "same()", x.same(), 3);
        shoot(x, 2, 0, 6, 5);
        Check.yes(x, "same()", x.same(), 4);
    }

    public static void main(String[] args) {
        none();
        leans();
        whoseAndWorst();
        sieves();
        sames();
        Check.end();
    }
}
