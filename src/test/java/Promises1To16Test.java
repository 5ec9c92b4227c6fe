/** The edges that promises 1 to 16 name: a new object, TRAYS, texts. */
public final class Promises1To16Test {
    private static long truth(boolean got) {
        return Edges.truth(got);
    }

    /** TRAY 0 with 10, 11 and so on, TRAY 1 of the same sort with 20, 21 and so on. */
    private static PeaTube twoTrays(int first, int second) {
        PeaTube x = new PeaTube();
        x.tray(0, 2, first);
        x.tray(1, 2, second);
        for (int i = 0; i < 60; i++) {
            x.write(0, i, 10 + i);
            x.write(1, i, 20 + i);
        }
        return x;
    }

    private static void row(PeaTube x, int tray, long... due) {
        for (int i = 0; i < due.length; i++) {
            Check.yes(x, "read(" + tray + ", " + i + ")", x.read(tray, i), due[i]);
        }
        Check.no(x, "read behind it", x.read(tray, due.length), 4);
    }

    @Sentence(in = "Promise 1", says = "TRAYS are MISSING, a TENT without RINGS, PEAS, SHOOTERS, no HOLES, ROUND, MARKS, an empty tape; STATUS 0, the FRACTION 0 by 1.")
    private static void aNewObjectIsEmpty() {
        PeaTube x = new PeaTube();
        Check.due("status()", x.status(), 0);
        Check.fraction(x, "a new object", 0, 1);
        for (int tray = 0; tray < 4; tray++) {
            Check.no(x, "read", x.read(tray, 0), 3);
            Check.no(x, "write", x.write(tray, 0, 1), 3);
        }
        int[] many = {24, 8, 12, 0, 0, 0, 0, 0, 0};
        for (int what = 0; what < 9; what++) {
            Check.yes(x, "many(" + what + ")", x.many(what), many[what]);
        }
        Check.no(x, "no ring", x.ring(0, 0), 2);
        Check.no(x, "no pea", x.pea(0, 0), 2);
        Check.no(x, "no shooter", x.shooter(0, 0), 2);
        Check.no(x, "no hole", x.hole(0, 0), 8);
        Check.no(x, "no round", x.play(0), 8);
        Check.no(x, "no play", x.played(0), 8);
        Check.no(x, "no mark", x.back(), 8);
        Check.due("no text", x.fault(0), -1);
        Check.no(x, "no tape", x.tent(1), 5);
        Check.due("an empty tape", x.feed(0, 0, 0, 0, 0), 20);
        Check.fraction(new PeaTube(), "another new object", 0, 1);
    }

    @Sentence(in = "Promise 2", says = "The STATUS of the latest call that has one.")
    private static void theStatusOfTheLatestCall() {
        PeaTube x = new PeaTube();
        Check.no(x, "back", x.back(), 8);
        Check.due("status() once more", x.status(), 8);
        x.feed(0, 0, 0, 0, 0);
        x.fault(9);
        x.top();
        x.bottom();
        Check.due("status() behind calls without one", x.status(), 8);
        Check.no(x, "read", x.read(0, 0), 3);
        Check.yes(x, "same", x.same(), 0);
        Check.due("status()", x.status(), 0);
    }

    @Sentence(in = "Promise 3", says = "The top of the FRACTION told latest (below 0, too).")
    private static void topBelow0() {
        PeaTube x = Check.withTent(Check.FAIR);
        x.shoot(1, 1, 20, -9, 0, 0, 0, 0);
        Check.yes(x, "lean", x.lean(-1, -1, 0));
        Check.due("top()", x.top(), -13);
        Check.no(x, "lean of none", x.lean(0, -1, 0), 8);
        Check.due("top() behind a call that is refused", x.top(), -13);
        x.wipeEvery(1, 1, 20, 1, 0);
        x.whose(0, 0);
        Check.due("top() behind calls that tell no FRACTION", x.top(), -13);
        Check.yes(x, "mean", x.mean(0, 3, 30, 0, 0, 0));
        Check.due("top() of 0", x.top(), 0);
    }

    @Sentence(in = "Promise 4", says = "Its bottom, above 0.")
    private static void bottomAbove0() {
        PeaTube x = Check.withTent(Check.FAIR);
        Check.due("bottom() at first", x.bottom(), 1);
        x.shoot(1, 1, 20, -9, 0, 0, 0, 0);
        x.shoot(1, 1, 20, 0, 0, 0, 0, 0);
        Check.yes(x, "lean", x.lean(-1, -1, 0));
        // x is -13, and at SPIT 1 with PACE 120, TIME 24: -6
        Check.fraction(x, "lean below 0", -19, 2);
        Check.yes(x, "mean of nothing", x.mean(0, 3, 30, 0, 0, 0));
        Check.due("bottom() of 0", x.bottom(), 1);
    }

    @Sentence(in = "Promise 5", says = "A TRAY is a row of so many numbers (at most 60; 5), all 0 (1; 5; 6).")
    private static void trayOfAtMost60AndNotBelow0() {
        PeaTube x = new PeaTube();
        Check.yes(x, "tray of 60", x.tray(0, 3, 60));
        Check.yes(x, "its last number", x.read(0, 59), 0);
        Check.no(x, "none behind it", x.read(0, 60), 4);
        Check.no(x, "tray of 61", x.tray(0, 3, 61), 5);
        Check.no(x, "tray of the most", x.tray(0, 3, Integer.MAX_VALUE), 5);
        Check.no(x, "tray of -1", x.tray(0, 3, -1), 6);
        Check.no(x, "tray of the least", x.tray(0, 3, Integer.MIN_VALUE), 6);
        Check.yes(x, "what is refused leaves it", x.read(0, 59), 0);
        Edges.fine(x, "tray", 1, 0, 3, v -> truth(x.tray(v, 1, 2)));
        Edges.fine(x, "sort", 1, 0, 3, v -> truth(x.tray(0, v, 2)));
        Check.yes(x, "tray of 0", x.tray(1, 0, 0));
        Check.no(x, "a row of none", x.read(1, 0), 4);
        x.tray(2, 3, 2);
        x.write(2, 0, 7);
        x.write(2, 1, 8);
        Check.yes(x, "shorter, anew", x.tray(2, 3, 1));
        row(x, 2, 0);
        Check.yes(x, "longer, anew", x.tray(2, 3, 3));
        row(x, 2, 0, 0, 0);
    }

    @Sentence(in = "Promise 6", says = "A number comes to a place of a TRAY (1; 3; 4).")
    private static void writeToAPlace() {
        PeaTube x = twoTrays(3, 1);
        Edges.within(x, "tray", 1, 0, 3, v -> truth(x.write(v, 0, 1)));
        Check.no(x, "a tray that is missing", x.write(2, 0, 1), 3);
        Check.no(x, "a place of a tray that is missing", x.write(2, -1, 1), 3);
        Edges.fine(x, "place", 4, 0, 2, v -> truth(x.write(0, v, 5)));
        Edges.fine(x, "place of one", 4, 0, 0, v -> truth(x.write(1, v, 6)));
        row(x, 0, 5, 11, 5);
        row(x, 1, 6);
    }

    @Sentence(in = "Promise 7", says = "The number in a place of a TRAY; STATUS tells NONE from -1 (1; 3; 4).")
    private static void readTellsNoneFromMinus1() {
        PeaTube x = twoTrays(3, 1);
        Edges.within(x, "tray", 1, 0, 3, v -> x.read(v, 0));
        Check.no(x, "a tray that is missing", x.read(2, 0), 3);
        Check.no(x, "a place of a tray that is missing", x.read(2, 60), 3);
        Edges.fine(x, "place", 4, 0, 2, v -> x.read(0, v));
        x.write(0, 0, -1);
        Check.yes(x, "-1", x.read(0, 0), -1);
        x.tray(3, 3, 60);
        x.write(3, 59, Long.MIN_VALUE);
        Check.yes(x, "the least", x.read(3, 59), Long.MIN_VALUE);
    }

    @Sentence(in = "Promise 8", says = "So many numbers from place i on of a TRAY come to place j on of another one, or the same, as they were")
    private static void pourToAnotherOrTheSame() {
        PeaTube x = twoTrays(4, 3);
        Check.yes(x, "to another", x.pour(0, 1, 1, 0, 3));
        row(x, 1, 11, 12, 13);
        row(x, 0, 10, 11, 12, 13);
        Check.yes(x, "to the same, up by one", x.pour(0, 0, 0, 1, 3));
        row(x, 0, 10, 10, 11, 12);
        Check.yes(x, "to the same, down by one", x.pour(0, 1, 0, 0, 3));
        row(x, 0, 10, 11, 12, 12);
        Check.yes(x, "to the same place", x.pour(0, 0, 0, 0, 4));
        row(x, 0, 10, 11, 12, 12);
        Check.yes(x, "none", x.pour(0, 0, 1, 0, 0));
        Check.yes(x, "none, right behind the last", x.pour(0, 4, 1, 3, 0));
        row(x, 1, 11, 12, 13);
        PeaTube y = twoTrays(60, 60);
        Check.yes(y, "60", y.pour(0, 0, 1, 0, 60));
        Check.yes(y, "the last of 60", y.read(1, 59), 69);
    }

    @Sentence(in = "Promise 8", says = "1, 3 (either), 11, 6, 4, asked in this order.")
    private static void pourIsAskedInThisOrder() {
        PeaTube x = twoTrays(4, 3);
        x.tray(2, 1, 3);
        Edges.within(x, "from", 1, 0, 3, v -> truth(x.pour(v, 9, 3, 9, -1)));
        Edges.within(x, "to", 1, 0, 3, v -> truth(x.pour(3, 9, v, 9, -1)));
        Check.no(x, "3 of the first", x.pour(3, 9, 2, 9, -1), 3);
        Check.no(x, "3 of the second", x.pour(2, 9, 3, 9, -1), 3);
        Check.no(x, "11 ahead of 6 and 4", x.pour(0, 9, 2, 9, -1), 11);
        Check.no(x, "6 ahead of 4", x.pour(0, 9, 1, 9, -1), 6);
        Check.no(x, "6 of the least", x.pour(0, 0, 1, 0, Integer.MIN_VALUE), 6);
        Edges.fine(x, "from place", 4, 0, 3, v -> truth(x.pour(0, v, 1, 0, 1)));
        Edges.fine(x, "to place", 4, 0, 2, v -> truth(x.pour(0, 0, 1, v, 1)));
        Check.no(x, "four from place 1", x.pour(0, 1, 0, 0, 4), 4);
        Check.no(x, "four to place 1", x.pour(0, 0, 0, 1, 4), 4);
        Check.no(x, "four to three", x.pour(0, 0, 1, 0, 4), 4);
        Check.no(x, "the most", x.pour(0, 1, 1, 1, Integer.MAX_VALUE), 4);
        Check.no(x, "none from -1", x.pour(0, -1, 1, 0, 0), 4);
        Check.no(x, "none to far behind", x.pour(0, 0, 1, 4, 0), 4);
    }

    @Sentence(in = "Promise 9", says = "Twenty bytes come behind those on the tape, the highest of each int first: how many it has")
    private static void feedTheHighestByteFirst() {
        PeaTube x = new PeaTube();
        Check.due("feed", x.feed(0x20202020, 0x20202020, 0x20202020, 0x20202020, 0x20206661), 20);
        Check.due("feed", x.feed(0x72203139, 0x3b77696e, 0x64203920, 0x6c656674, 0x3b202020), 40);
        Check.yes(x, "tent across two feeds", x.tent(40), 0);
        Check.yes(x, "far", x.many(2), 19);
        Check.yes(x, "wind", x.many(3), -9);
        x.feed(0x66617220, 0x34fffefd, -1, 0x80808080, 0);
        Check.no(x, "bytes with the highest bit", x.tent(7), 10);
        Check.due("fault(0)", x.fault(0), 1);
        Check.due("fault(1)", x.fault(1), 5);
    }

    @Sentence(in = "Promise 9", says = "NONE if there would be more than 900.")
    private static void feedNoMoreThan900() {
        PeaTube x = new PeaTube();
        int blanks = 0x20202020;
        for (int i = 1; i <= 45; i++) {
            Check.due("feed", x.feed(blanks, blanks, blanks, blanks, blanks), 20 * i);
        }
        Check.due("feed of 20 more", x.feed(0, 0, 0, 0, 0), -1);
        Check.due("and again", x.feed(0, 0, 0, 0, 0), -1);
        Check.yes(x, "the tape has what it had", x.tent(900), 0);
        Check.due("there is room again", x.feed(0, 0, 0, 0, 0), 20);
    }

    @Sentence(in = "Promise 10", says = "The first n bytes of the tape (which is empty then, but for 5) are the TENT: how many PEAS (5; 10: the old one stays).")
    private static void tentOfTheFirstBytes() {
        PeaTube x = new PeaTube();
        Check.feed(x, "far 4;far 5;");
        Check.no(x, "tent(-1)", x.tent(-1), 5);
        Check.no(x, "tent(21)", x.tent(21), 5);
        Check.no(x, "tent(MIN)", x.tent(Integer.MIN_VALUE), 5);
        Check.no(x, "tent(MAX)", x.tent(Integer.MAX_VALUE), 5);
        Check.yes(x, "tent(6): the tape was kept", x.tent(6), 0);
        Check.yes(x, "far", x.many(2), 4);
        Check.no(x, "the tape is empty", x.tent(1), 5);
        Check.yes(x, "tent(0) of an empty tape", x.tent(0), 0);
        Check.yes(x, "far without", x.many(2), 12);
        Check.feed(x, "far 4;far 5;");
        Check.yes(x, "tent(0) of a tape", x.tent(0), 0);
        Check.no(x, "the tape is empty, though none of it was taken", x.tent(1), 5);
        Check.yes(x, "eight peas", Check.tent(x, "pea a size 1 weight 1;pea b size 1 weight 1;pea c size 1 weight 1;pea d size 1 weight 1;"
            + "pea e size 1 weight 1;pea f size 1 weight 1;pea g size 1 weight 1;pea h size 1 weight 1;"), 8);
        Check.feed(x, "far 4;far 5;");
        Check.no(x, "tent(20) has a FAULT", x.tent(20), 10);
        Check.yes(x, "the old one stays", x.many(5), 8);
        Check.no(x, "the tape is empty", x.tent(1), 5);
    }

    @Sentence(in = "Promise 10", says = "10: the old one stays")
    private static void theOldTentStaysWithAllThatIsInIt() {
        PeaTube x = Check.withTent(Check.FAIR);
        Check.round(x, "wipe;");
        x.shoot(0, 1, 30, 0, 0, 0, 0, 0);
        // it has all PARTS ahead of its FAULT
        Check.no(x, "tent", Check.tent(x, "tube 12 bore 3; far 4; wind 9; ring 60 worth 20; pea q size 1 weight 9 wet; shooter r puff 1 shake 1; go"), 10);
        int[] many = {24, 8, 12, -2, 3, 4, 3, 1, 1};
        for (int what = 0; what < 9; what++) {
            Check.yes(x, "many(" + what + ")", x.many(what), many[what]);
        }
        Check.yes(x, "ring", x.ring(0, 0), 30);
        Check.yes(x, "pea", x.pea(0, 1), 2);
        Check.yes(x, "shooter", x.shooter(0, 0), 30);
        Check.yes(x, "score", x.shooter(0, 4), 5);
        Check.yes(x, "round", x.play(0), 1);
        Check.yes(x, "names", Check.round(x, "load small; shoot ann;"), 2);
    }

    @Sentence(in = "Promise 11", says = "Likewise the ROUND: how many STEPS (5: above 300, too; 10).")
    private static void roundOfTheFirstBytes() {
        PeaTube x = new PeaTube();
        Check.no(x, "round(1) of an empty tape", x.round(1), 5);
        Check.yes(x, "round(0) of an empty tape", x.round(0), 0);
        Check.feed(x, "wipe;".repeat(30) + " ".repeat(170));
        Check.no(x, "round(-1)", x.round(-1), 5);
        Check.no(x, "round(301)", x.round(301), 5);
        Check.no(x, "round(320)", x.round(320), 5);
        Check.no(x, "round(321)", x.round(321), 5);
        Check.yes(x, "round(300): the tape was kept", x.round(300), 30);
        Check.no(x, "the tape is empty", x.round(1), 5);
        Check.feed(x, "wipe;wipe;loop 2;");
        Check.no(x, "round(20) has a FAULT", x.round(20), 10);
        Check.no(x, "the tape is empty", x.round(1), 5);
        Check.yes(x, "the old one stays", x.play(0), 30);
        Check.feed(x, "wipe;wipe;loop 2;");
        Check.yes(x, "round(10): loop is no part of it", x.round(10), 2);
        Check.yes(x, "play", x.play(0), 2);
    }

    @Sentence(in = "Promise 12", says = "Of the latest of these with STATUS 0 or 10, what 0: the FAULT (0 without one), 1: its place (NONE without).")
    private static void faultOfTheLatestText() {
        PeaTube x = new PeaTube();
        Check.no(x, "tent", Check.tent(x, "far 3;"), 10);
        fault(x, 4, 4);
        Check.no(x, "a tent with 5", x.tent(1), 5);
        fault(x, 4, 4);
        Check.no(x, "a round with 5", x.round(1), 5);
        fault(x, 4, 4);
        Check.yes(x, "round", x.round(0), 0);
        fault(x, 0, -1);
        Check.no(x, "round", Check.round(x, "!"), 10);
        fault(x, 1, 0);
        Check.yes(x, "tent", x.tent(0), 0);
        fault(x, 0, -1);
    }

    private static void fault(PeaTube x, int kind, int place) {
        Check.due("fault(0)", x.fault(0), kind);
        Check.due("fault(1)", x.fault(1), place);
    }

    @Sentence(in = "Promise 12", says = "NONE for others, and ahead of any.")
    private static void faultOfOthersAndAheadOfAny() {
        PeaTube x = new PeaTube();
        fault(x, -1, -1);
        x.tent(1);
        x.round(-1);
        fault(x, -1, -1);
        Check.no(x, "tent", Check.tent(x, "far 3;"), 10);
        for (int what : new int[] {-1, 2, Integer.MIN_VALUE, Integer.MAX_VALUE}) {
            Check.due("fault(" + what + ")", x.fault(what), -1);
        }
    }

    @Sentence(in = "Promise 13", says = "The TUBE's inches (what 0), BORE (1), yards FAR (2), WIND (3: below 0 to the LEFT; STATUS tells NONE)")
    private static void manyTellsTheWind() {
        Check.due("1 to the left", Check.withTent("wind 1 left;").many(3), -1);
        PeaTube x = Check.withTent("wind 1 left;");
        Check.yes(x, "-1 is no NONE", x.many(3), -1);
        PeaTube y = Check.withTent("wind 1;");
        Check.yes(y, "to the right", y.many(3), 1);
    }

    @Sentence(in = "Promise 13", says = "RINGS (4), PEAS (5), SHOOTERS (6), SPIT (7), HOLES (8) (5).")
    private static void manyOf0To8() {
        PeaTube x = Check.withTent(Check.FAIR);
        x.shoot(0, 1, 30, 0, 0, 0, 0, 0);
        x.shoot(0, 1, 30, 0, 0, 0, 0, 0);
        x.wipe();
        x.shoot(0, 1, 30, 0, 0, 0, 0, 0);
        int[] due = {24, 8, 12, -2, 3, 4, 3, 1, 3};
        for (int what = 0; what < 9; what++) {
            Check.yes(x, "many(" + what + ")", x.many(what), due[what]);
        }
        Edges.fine(x, "what", 5, 0, 8, v -> x.many(v));
    }

    @Sentence(in = "Promise 14", says = "Of a RING, what 0: how far, 1: WORTH (2; 5).")
    private static void ringWithin() {
        PeaTube x = Check.withTent(Check.FAIR);
        Edges.fine(x, "ring", 2, 0, 2, v -> x.ring(v, 0));
        Edges.fine(x, "what", 5, 0, 1, v -> x.ring(2, v));
        Edges.within(x, "ring", 2, 0, 2, v -> x.ring(v, 9));
        Check.yes(x, "how far", x.ring(0, 0), 30);
        Check.yes(x, "worth", x.ring(0, 1), 1);
        Check.yes(x, "how far", x.ring(2, 0), 5);
    }

    @Sentence(in = "Promise 15", says = "Of a PEA, what 0: SIZE, 1: WEIGHT, 2: CROOKED, 3: 1 if it is WET, 4: FIT (9: it does not go in), 5: 1 if it RATTLES (9) (2; 5).")
    private static void peaWithin() {
        PeaTube x = Check.withTent(Check.FAIR);
        Edges.fine(x, "pea", 2, 0, 3, v -> x.pea(v, 1));
        Edges.fine(x, "what", 5, 0, 5, v -> x.pea(0, v));
        Edges.within(x, "pea", 2, 0, 3, v -> x.pea(v, 4));
        Edges.within(x, "what of one that does not go in", 5, 0, 5, v -> x.pea(3, v));
        Check.no(x, "fit", x.pea(3, 4), 9);
        Check.no(x, "rattles", x.pea(3, 5), 9);
        Check.yes(x, "wet is told of it, too", x.pea(3, 3), 0);
        Check.yes(x, "fit 0", x.pea(1, 4), 0);
        Check.yes(x, "fit 3", x.pea(0, 4), 3);
        Check.yes(x, "rattles", x.pea(0, 5), 1);
        Check.yes(x, "does not", x.pea(2, 5), 0);
    }

    @Sentence(in = "Promise 16", says = "Of a SHOOTER, what 0: the hardest PUFF, 1: SHAKE, 2: LEAN to the right, 3: up (STATUS tells NONE), 4: its score, 5: its HOLES (2; 5).")
    private static void shooterWithin() {
        PeaTube x = Check.withTent("ring 60 worth 20; pea p size 8 weight 1; shooter a puff 40 shake 0 lean 0 1 low; shooter b puff 40 shake 0;");
        Edges.fine(x, "shooter", 2, 0, 1, v -> x.shooter(v, 0));
        Edges.fine(x, "what", 5, 0, 5, v -> x.shooter(1, v));
        Edges.within(x, "shooter", 2, 0, 1, v -> x.shooter(v, 6));
        Check.yes(x, "-1 is no NONE", x.shooter(0, 3), -1);
        for (int i = 0; i < 60; i++) {
            x.shoot(0, 0, 40, 0, 0, 0, 0, 0);
            x.wipe();
        }
        Check.yes(x, "the greatest score there can be", x.shooter(0, 4), 1200);
        Check.yes(x, "all holes", x.shooter(0, 5), 60);
        Check.yes(x, "the other's score", x.shooter(1, 4), 0);
        Check.yes(x, "the other's holes", x.shooter(1, 5), 0);
    }

    public static void main(String[] args) throws Exception {
        Sentences.test(Promises1To16Test.class);
    }
}
