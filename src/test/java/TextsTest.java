/** Promises 9 to 16: feed, tent, round, fault, many, ring, pea, shooter. */
public final class TextsTest {
    private static void feeds() {
        PeaTube x = new PeaTube();
        for (int i = 1; i <= 45; i++) {
            Check.due("feed", x.feed(0x20202020, 0x20202020, 0x20202020, 0x20202020, 0x20202020), 20 * i);
        }
        Check.due("feed of more than 900", x.feed(1, 2, 3, 4, 5), -1);
        Check.yes(x, "tent(900) of blanks", x.tent(900), 0);
        // "far ", "7; f", "ar 8", ";", blanks: the highest byte of each int first
        Check.due("feed", x.feed(0x66617220, 0x373b2066, 0x61722038, 0x3b202020, 0x20202020), 20);
        Check.yes(x, "tent(6)", x.tent(6), 0);
        Check.yes(x, "far", x.many(2), 7);
        x.feed(0x66617220, 0x373b2066, 0x61722038, 0x3b202020, 0x20202020);
        Check.no(x, "tent(20)", x.tent(20), 10);
        Check.due("fault(0)", x.fault(0), 5);
        Check.due("fault(1)", x.fault(1), 7);
        x.feed(0x66617220, 0x39ff2020, 0x20202020, 0x20202020, 0x20202020);
        Check.no(x, "tent with a byte of 255", x.tent(20), 10);
        Check.due("fault(0)", x.fault(0), 1);
        Check.due("fault(1)", x.fault(1), 5);
    }

    private static void tapes() {
        PeaTube x = new PeaTube();
        Check.feed(x, "far 9;");
        Check.no(x, "tent(-1)", x.tent(-1), 5);
        Check.no(x, "tent(21)", x.tent(21), 5);
        Check.no(x, "round(-1)", x.round(-1), 5);
        Check.no(x, "round(21)", x.round(21), 5);
        Check.due("no fault ahead of any text", x.fault(0), -1);
        Check.yes(x, "tent(20): the tape is kept by 5", x.tent(20), 0);
        Check.yes(x, "far", x.many(2), 9);
        Check.due("the tape is empty behind a tent", x.feed(0, 0, 0, 0, 0), 20);
        Check.no(x, "tent(20) of zeros", x.tent(20), 10);
        Check.due("the tape is empty behind a fault", x.feed(0x20202020, 0, 0, 0, 0), 20);
        Check.no(x, "round(5)", x.round(5), 10);
        Check.due("fault(1)", x.fault(1), 4);
        Check.due("fault(2)", x.fault(2), -1);
        Check.due("fault(-1)", x.fault(-1), -1);
        Check.due("the tape is empty behind a round's fault", x.feed(0x20202020, 0, 0, 0, 0), 20);
        Check.yes(x, "round(4)", x.round(4), 0);
        Check.due("the tape is empty behind a round", x.feed(0x20202020, 0, 0, 0, 0), 20);
        Check.due("fault(0)", x.fault(0), 0);
        Check.due("fault(1)", x.fault(1), -1);
        Check.no(x, "tent(30)", x.tent(30), 5);
        Check.due("5 leaves what fault() tells", x.fault(0), 0);
        Check.yes(x, "far is as it was", x.many(2), 9);
    }

    private static void longTexts() {
        PeaTube x = Check.withTent(Check.FAIR);
        Check.feed(x, "wipe;" + " ".repeat(315));
        Check.no(x, "round(301)", x.round(301), 5);
        Check.yes(x, "round(300)", x.round(300), 1);
        Check.feed(x, " ".repeat(880) + "far 8; wind 3;      ");
        Check.yes(x, "tent(900)", x.tent(900), 0);
        Check.yes(x, "wind", x.many(3), 3);
        String peas = "";
        for (int i = 0; i < 8; i++) {
            peas += "pea " + "abcdefgh".charAt(i) + " size " + (i + 1) + " weight " + (20 - i) + ";";
        }
        Check.yes(x, "tent of eight peas", Check.tent(x, peas), 8);
        Check.yes(x, "pea(7, 0)", x.pea(7, 0), 8);
        Check.yes(x, "pea(7, 1)", x.pea(7, 1), 13);
        Check.no(x, "pea(8, 0)", x.pea(8, 0), 2);
    }

    private static void told() {
        PeaTube x = Check.withTent(Check.FAIR);
        int[] many = {24, 8, 12, -2, 3, 4, 3, 0, 0};
        for (int what = 0; what < many.length; what++) {
            Check.yes(x, "many(" + what + ")", x.many(what), many[what]);
        }
        Check.no(x, "many(-1)", x.many(-1), 5);
        Check.no(x, "many(9)", x.many(9), 5);
        int[][] rings = {{30, 1}, {15, 3}, {5, 5}};
        int[][] peas = {{5, 2, 1, 0, 3, 1}, {8, 3, 0, 0, 0, 0}, {7, 2, 0, 1, 1, 0}};
        int[][] shooters = {{30, 2, 1, 2, 0, 0}, {20, 0, 0, 0, 0, 0}, {30, 6, 7, -3, 0, 0}};
        for (int i = 0; i < 3; i++) {
            for (int what = 0; what < 6; what++) {
                if (what < 2) {
                    Check.yes(x, "ring(" + i + ", " + what + ")", x.ring(i, what), rings[i][what]);
                }
                Check.yes(x, "pea(" + i + ", " + what + ")", x.pea(i, what), peas[i][what]);
                Check.yes(x, "shooter(" + i + ", " + what + ")", x.shooter(i, what), shooters[i][what]);
            }
        }
        Check.no(x, "ring(-1, 0)", x.ring(-1, 0), 2);
        Check.no(x, "ring(3, 5)", x.ring(3, 5), 2);
        Check.no(x, "ring(0, 2)", x.ring(0, 2), 5);
        Check.no(x, "ring(0, -1)", x.ring(0, -1), 5);
        Check.no(x, "pea(-1, 0)", x.pea(-1, 0), 2);
        Check.no(x, "pea(4, 9)", x.pea(4, 9), 2);
        Check.no(x, "pea(0, 6)", x.pea(0, 6), 5);
        Check.yes(x, "pea(3, 0)", x.pea(3, 0), 9);
        Check.yes(x, "pea(3, 3)", x.pea(3, 3), 0);
        Check.no(x, "pea(3, 4)", x.pea(3, 4), 9);
        Check.no(x, "pea(3, 5)", x.pea(3, 5), 9);
        Check.no(x, "pea(3, 6)", x.pea(3, 6), 5);
        Check.no(x, "shooter(3, 0)", x.shooter(3, 0), 2);
        Check.no(x, "shooter(-1, 9)", x.shooter(-1, 9), 2);
        Check.no(x, "shooter(0, 6)", x.shooter(0, 6), 5);
        Check.no(x, "shooter(0, -1)", x.shooter(0, -1), 5);
        x.shoot(0, 1, 30, 0, 0, 0, 0, 0);
        x.shoot(0, 1, 30, 0, 0, 0, 0, 1);
        Check.yes(x, "score", x.shooter(0, 4), 10);
        Check.yes(x, "holes", x.shooter(0, 5), 2);
        Check.yes(x, "spit", x.many(7), 2);
        Check.yes(x, "all holes", x.many(8), 2);
    }

    private static void whatATentTakesAway() {
        PeaTube x = Check.withTent(Check.FAIR);
        x.shoot(0, 1, 30, 0, 0, 0, 0, 0);
        Check.yes(x, "round", Check.round(x, "shoot ann;"), 1);
        Check.yes(x, "play", x.play(5), 1);
        Check.no(x, "a tent with a fault", Check.tent(x, "tube;"), 10);
        Check.yes(x, "peas are as they were", x.many(5), 4);
        Check.yes(x, "spit is as it was", x.many(7), 2);
        Check.yes(x, "holes are as they were", x.many(8), 2);
        Check.yes(x, "the round is as it was", x.play(5), 1);
        Check.no(x, "a round with a fault", Check.round(x, "shoot;"), 10);
        Check.yes(x, "the round is as it was", x.play(5), 1);
        Check.yes(x, "tent", Check.tent(x, Check.FAIR), 4);
        Check.yes(x, "spit", x.many(7), 0);
        Check.yes(x, "holes", x.many(8), 0);
        Check.yes(x, "score", x.shooter(0, 4), 0);
        Check.no(x, "play", x.play(5), 8);
        Check.yes(x, "played stays", x.played(1), 1);
        Check.yes(x, "an empty tent", x.tent(0), 0);
        Check.yes(x, "inches without a tube", x.many(0), 24);
        Check.yes(x, "wind without one", x.many(3), 0);
        Check.yes(x, "no rings", x.many(4), 0);
    }

    public static void main(String[] args) {
        feeds();
        tapes();
        longTexts();
        told();
        whatATentTakesAway();
        Check.end();
    }
}
