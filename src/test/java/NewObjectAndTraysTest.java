/** Promises 1 to 8: a new object, status, top, bottom, tray, write, read, pour. */
public final class NewObjectAndTraysTest {
    private static void newObject() {
        PeaTube x = new PeaTube();
        Check.due("status()", x.status(), 0);
        Check.due("top()", x.top(), 0);
        Check.due("bottom()", x.bottom(), 1);
        Check.due("fault(0)", x.fault(0), -1);
        Check.due("fault(1)", x.fault(1), -1);
        int[] many = {24, 8, 12, 0, 0, 0, 0, 0, 0};
        for (int what = 0; what < many.length; what++) {
            Check.yes(x, "many(" + what + ")", x.many(what), many[what]);
        }
        for (int tray = 0; tray < 4; tray++) {
            Check.no(x, "read", x.read(tray, 0), 3);
        }
        Check.no(x, "play(0)", x.play(0), 8);
        Check.no(x, "played(0)", x.played(0), 8);
        Check.no(x, "back()", x.back(), 8);
        Check.no(x, "tent(1) of an empty tape", x.tent(1), 5);
        Check.yes(x, "round(0) in an empty tent", x.round(0), 0);
    }

    private static void statusTopBottom() {
        PeaTube x = Check.withTent(Check.FAIR);
        Check.no(x, "many(9)", x.many(9), 5);
        x.fault(0);
        x.fault(77);
        x.feed(0, 0, 0, 0, 0);
        x.top();
        x.bottom();
        Check.due("status() is kept by calls without one", x.status(), 5);
        x.many(0);
        Check.due("status()", x.status(), 0);
        Check.yes(x, "mean", x.mean(0, 1, 30, 0, 5, 0));
        Check.fraction(x, "mean", 117, 25);
        Check.no(x, "mean of no pea", x.mean(0, 9, 30, 0, 5, 0), 2);
        Check.due("top() is kept by a call that is refused", x.top(), 117);
        Check.due("bottom()", x.bottom(), 25);
        Check.yes(x, "shoot", x.shoot(1, 1, 20, -3, 0, 0, 0, 0), 3);
        Check.yes(x, "lean", x.lean(1, 1, 0));
        Check.fraction(x, "lean below 0", -7, 1);
        Check.yes(x, "mean that is 0", x.mean(0, 3, 30, 0, 5, 0));
        Check.fraction(x, "mean that is 0", 0, 1);
    }

    private static void trays() {
        PeaTube x = new PeaTube();
        Check.no(x, "tray(-1, 0, 1)", x.tray(-1, 0, 1), 1);
        Check.no(x, "tray(4, 0, 1)", x.tray(4, 0, 1), 1);
        Check.no(x, "tray(0, -1, 1)", x.tray(0, -1, 1), 1);
        Check.no(x, "tray(0, 4, 1)", x.tray(0, 4, 1), 1);
        Check.no(x, "tray(4, 4, 61)", x.tray(4, 4, 61), 1);
        Check.no(x, "tray(0, 0, 61)", x.tray(0, 0, 61), 5);
        Check.no(x, "tray(0, 0, -1)", x.tray(0, 0, -1), 6);
        Check.no(x, "tray(0, 0, MIN)", x.tray(0, 0, Integer.MIN_VALUE), 6);
        Check.no(x, "read of one that was refused", x.read(0, 0), 3);
        Check.yes(x, "tray(0, 0, 60)", x.tray(0, 0, 60));
        Check.yes(x, "read(0, 59)", x.read(0, 59), 0);
        Check.no(x, "read(0, 60)", x.read(0, 60), 4);
        Check.no(x, "read(0, -1)", x.read(0, -1), 4);
        Check.yes(x, "tray(0, 0, 0)", x.tray(0, 0, 0));
        Check.no(x, "read(0, 0) of an empty one", x.read(0, 0), 4);
        Check.no(x, "write(0, 0) of an empty one", x.write(0, 0, 1), 4);
        Check.no(x, "read(4, 0)", x.read(4, 0), 1);
        Check.no(x, "write(-1, 0)", x.write(-1, 0, 1), 1);
        Check.no(x, "write(1, 0)", x.write(1, 0, 1), 3);
    }

    private static void cuts() {
        PeaTube x = new PeaTube();
        long v = 0x123456789abcdef0L;
        long[] cut = {(byte) v, (short) v, (int) v, v};
        for (int sort = 0; sort < 4; sort++) {
            Check.yes(x, "tray", x.tray(sort, sort, 2));
            Check.yes(x, "write", x.write(sort, 1, v));
            Check.yes(x, "read of sort " + sort, x.read(sort, 1), cut[sort]);
            Check.yes(x, "read of its neighbour", x.read(sort, 0), 0);
            Check.yes(x, "write", x.write(sort, 0, -1));
            Check.yes(x, "read of -1", x.read(sort, 0), -1);
        }
        x.write(0, 0, 127);
        Check.yes(x, "127 in 8 bits", x.read(0, 0), 127);
        x.write(0, 0, 128);
        Check.yes(x, "128 in 8 bits", x.read(0, 0), -128);
        x.write(1, 0, 32768);
        Check.yes(x, "32768 in 16 bits", x.read(1, 0), -32768);
        x.write(2, 0, 2147483648L);
        Check.yes(x, "2147483648 in 32 bits", x.read(2, 0), -2147483648L);
        x.write(3, 0, Long.MIN_VALUE);
        Check.yes(x, "the least in 64 bits", x.read(3, 0), Long.MIN_VALUE);
        Check.yes(x, "tray anew", x.tray(3, 3, 2));
        Check.yes(x, "all 0 anew", x.read(3, 0), 0);
    }

    private static void pours() {
        PeaTube x = new PeaTube();
        x.tray(0, 2, 5);
        x.tray(1, 2, 3);
        x.tray(2, 1, 3);
        for (int i = 0; i < 5; i++) {
            x.write(0, i, 10 + i);
        }
        Check.no(x, "pour(-1, ..)", x.pour(-1, 0, 0, 0, 1), 1);
        Check.no(x, "pour(.., 4)", x.pour(0, 0, 4, 0, 1), 1);
        Check.no(x, "pour to one that is missing", x.pour(0, 9, 3, 0, -1), 3);
        Check.no(x, "pour from one that is missing", x.pour(3, 9, 0, 0, -1), 3);
        Check.no(x, "pour among unlike sorts", x.pour(0, 9, 2, 0, -1), 11);
        Check.no(x, "pour of fewer than none", x.pour(0, 9, 1, 0, -1), 6);
        Check.no(x, "pour of too many", x.pour(0, 0, 1, 0, 4), 4);
        Check.no(x, "pour from too far", x.pour(0, 3, 1, 0, 3), 4);
        Check.no(x, "pour to too far", x.pour(0, 0, 1, 1, 3), 4);
        Check.no(x, "pour from -1", x.pour(0, -1, 1, 0, 1), 4);
        Check.no(x, "pour to -1", x.pour(0, 0, 1, -1, 1), 4);
        Check.no(x, "pour of very many", x.pour(0, 1, 1, 1, Integer.MAX_VALUE), 4);
        Check.no(x, "pour from very far", x.pour(0, Integer.MAX_VALUE, 1, 1, 1), 4);
        Check.yes(x, "pour", x.pour(0, 2, 1, 0, 3));
        Check.yes(x, "read", x.read(1, 0), 12);
        Check.yes(x, "read", x.read(1, 2), 14);
        Check.yes(x, "pour of none at the end", x.pour(0, 5, 1, 3, 0));
        Check.yes(x, "pour up within one", x.pour(0, 0, 0, 1, 4));
        long[] up = {10, 10, 11, 12, 13};
        for (int i = 0; i < 5; i++) {
            Check.yes(x, "poured up " + i, x.read(0, i), up[i]);
        }
        Check.yes(x, "pour down within one", x.pour(0, 1, 0, 0, 4));
        long[] down = {10, 11, 12, 13, 13};
        for (int i = 0; i < 5; i++) {
            Check.yes(x, "poured down " + i, x.read(0, i), down[i]);
        }
    }

    public static void main(String[] args) {
        newObject();
        statusTopBottom();
        trays();
        cuts();
        pours();
        Check.due("NONE", PeaTube.NONE, -1);
        Check.end();
    }
}
