/** The edges of one argument of a call: which values are taken, and which STATUS the others have. */
final class Edges {
    /** A call by one of its arguments; of a boolean call NONE stands for false. */
    interface Call {
        long with(int v);
    }

    private Edges() {
    }

    static long truth(boolean got) {
        return got ? 1L : PeaTube.NONE;
    }

    /** The least and the most are taken (they may have another STATUS), all that is beyond has this one. */
    static void within(PeaTube x, String what, int status, int least, int most, Call call) {
        for (int v : new int[] {least, most}) {
            call.with(v);
            Check.due(what + " " + v + " is taken: status is not " + status, x.status() == status, false);
        }
        for (int v : new int[] {least - 1, most + 1, Integer.MIN_VALUE, Integer.MAX_VALUE}) {
            Check.no(x, what + " " + v, call.with(v), status);
        }
    }

    /** The same, and what is taken has STATUS 0. */
    static void fine(PeaTube x, String what, int status, int least, int most, Call call) {
        within(x, what, status, least, most, call);
        for (int v : new int[] {least, most}) {
            call.with(v);
            Check.due(what + " " + v + " has status 0", x.status(), 0);
        }
    }
}
