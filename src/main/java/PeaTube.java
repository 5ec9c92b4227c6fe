import java.util.Arrays;

/**
 * Peas through a tube at a board with putty. The words in capitals are those of the document;
 * every call that has a STATUS sets it last, by answer(), refuse(), agree() or deny().
 */
public final class PeaTube {
    public static final int NONE = -1;

    private static final int NO_SUCH_TRAY = 1;
    private static final int NO_SUCH_THING = 2;
    private static final int TRAY_MISSING = 3;
    private static final int NO_SUCH_PLACE = 4;
    private static final int WRONG_NUMBER = 5;
    private static final int BELOW_ZERO = 6;
    private static final int ONE_TOO_MANY = 7;
    private static final int THERE_IS_NONE = 8;
    private static final int CANNOT_BE = 9;
    private static final int HAS_FAULT = 10;
    private static final int UNLIKE_SORTS = 11;

    private static final int FAULT_TOKEN = 1;
    private static final int FAULT_STANDS_WRONG = 2;
    private static final int FAULT_NAME = 3;
    private static final int FAULT_NUMBER = 4;
    private static final int FAULT_TOLD_ALREADY = 5;
    private static final int FAULT_TOO_MANY = 6;
    private static final int FAULT_TOO_DEEP = 7;

    private static final int MOST_TRAYS = 4;
    private static final int MOST_SORTS = 4;
    private static final int MOST_NUMBERS = 60;
    private static final int MOST_BYTES = 900;
    private static final int MOST_ROUND_BYTES = 300;
    private static final int MOST_RINGS = 6;
    private static final int MOST_PEAS = 8;
    private static final int MOST_SHOOTERS = 6;
    private static final int MOST_HOLES = 60;
    private static final int MOST_SPIT = 20;
    private static final int MOST_MARKS = 3;
    private static final int MOST_PUFF = 40;
    private static final int MOST_SHAKE = 6;
    private static final int MOST_POINTS = 20;
    private static final int MOST_AIM = 60;
    private static final int MOST_BEAT = 3;
    private static final int MOST_TURNS = 5;
    private static final int MOST_SERIES = 30;
    private static final int MOST_SEED = 9999;
    private static final int WALL = 99;
    private static final int SHORTEST_TUBE = 12;
    private static final int LONGEST_TUBE = 48;
    private static final int STEADY_BEAT = 2;
    private static final int BEST_AIM = 20;
    private static final int AIMS = 2 * BEST_AIM + 1;

    private static final int FLIES = 0;
    private static final int DOES_NOT_GO_IN = 1;
    private static final int STICKS = 2;
    private static final int DROPS = 3;

    /** All WORDS that no NAME may be, a blank behind each; the numbers below are their places here. */
    private static final String WORDS = "tube bore far wind left ring worth pea size weight crooked wet shooter puff shake lean low load aim beat shoot wipe next when score holes spit loop end stop ";
    private static final int MOST_WORDS = 30;
    private static final int MOST_LETTERS = 8;
    private static final int TUBE = 0;
    private static final int BORE = 1;
    private static final int FAR = 2;
    private static final int WIND = 3;
    private static final int LEFT = 4;
    private static final int RING = 5;
    private static final int WORTH = 6;
    private static final int PEA = 7;
    private static final int SIZE = 8;
    private static final int WEIGHT = 9;
    private static final int CROOKED = 10;
    private static final int WET = 11;
    private static final int SHOOTER = 12;
    private static final int PUFF = 13;
    private static final int SHAKE = 14;
    private static final int LEAN = 15;
    private static final int LOW = 16;
    private static final int LOAD = 17;
    private static final int AIM = 18;
    private static final int BEAT = 19;
    private static final int SHOOT = 20;
    private static final int WIPE = 21;
    private static final int NEXT = 22;
    private static final int WHEN = 23;
    private static final int SCORE = 24;
    private static final int HOLES = 25;
    private static final int SPIT = 26;
    private static final int LOOP = 27;
    private static final int END = 28;
    private static final int STOP = 29;

    private int status;
    private long top;
    private long bottom;
    private final Tray[] trays;
    private final Tape tape;
    private Tent tent;
    private Tent spareTent;
    private Round round;
    private Round spareRound;
    private final Tally tally;
    private final Tally trialTally;
    private final Kept[] marks;
    private int marked;
    private final Shot shot;
    private final Chances chances;
    private final Chances[] rivals;
    private final AimSearch aims;
    private final Best best;
    private final Player player;
    private final Player trialPlayer;

    public PeaTube() {
        status = 0;
        top = 0L;
        bottom = 1L;
        trays = new Tray[MOST_TRAYS];
        for (int i = 0; i < MOST_TRAYS; i++) {
            trays[i] = new Tray();
        }
        tape = new Tape();
        tent = new Tent();
        spareTent = new Tent();
        round = new Round();
        spareRound = new Round();
        tally = new Tally();
        trialTally = new Tally();
        marks = new Kept[MOST_MARKS];
        for (int i = 0; i < MOST_MARKS; i++) {
            marks[i] = new Kept();
        }
        marked = 0;
        shot = new Shot();
        chances = new Chances();
        rivals = new Chances[4];
        for (int i = 0; i < 4; i++) {
            rivals[i] = new Chances();
        }
        aims = new AimSearch();
        best = new Best();
        player = new Player();
        trialPlayer = new Player();
    }

    public int status() {
        return status;
    }

    public long top() {
        return top;
    }

    public long bottom() {
        return bottom;
    }

    // ---- TRAYS

    public boolean tray(int tray, int sort, int many) {
        if (!isTray(tray) || !within(sort, 0, MOST_SORTS - 1)) {
            return deny(NO_SUCH_TRAY);
        }
        if (many > MOST_NUMBERS) {
            return deny(WRONG_NUMBER);
        }
        if (many < 0) {
            return deny(BELOW_ZERO);
        }
        trays[tray].lay(sort, many);
        return agree();
    }

    public boolean write(int tray, int place, long v) {
        int wrong = wrongPlace(tray, place);
        if (wrong != 0) {
            return deny(wrong);
        }
        trays[tray].put(place, v);
        return agree();
    }

    public long read(int tray, int place) {
        int wrong = wrongPlace(tray, place);
        if (wrong != 0) {
            return refuse(wrong);
        }
        status = 0;
        return trays[tray].row[place];
    }

    public boolean pour(int tray, int i, int to, int j, int many) {
        if (!isTray(tray) || !isTray(to)) {
            return deny(NO_SUCH_TRAY);
        }
        Tray from = trays[tray];
        Tray into = trays[to];
        if (!from.there || !into.there) {
            return deny(TRAY_MISSING);
        }
        if (from.sort != into.sort) {
            return deny(UNLIKE_SORTS);
        }
        if (many < 0) {
            return deny(BELOW_ZERO);
        }
        if (!from.hasFrom(i, many) || !into.hasFrom(j, many)) {
            return deny(NO_SUCH_PLACE);
        }
        System.arraycopy(from.row, i, into.row, j, many);
        return agree();
    }

    // ---- texts

    public int feed(int a, int b, int c, int d, int e) {
        if (tape.many + 20 > MOST_BYTES) {
            return NONE;
        }
        tape.append(a);
        tape.append(b);
        tape.append(c);
        tape.append(d);
        tape.append(e);
        return tape.many;
    }

    public int tent(int n) {
        if (!within(n, 0, tape.many)) {
            return refuse(WRONG_NUMBER);
        }
        tape.begin(n);
        boolean taken = spareTent.parse(tape);
        tape.many = 0;
        if (!taken) {
            return refuse(HAS_FAULT);
        }
        Tent old = tent;
        tent = spareTent;
        spareTent = old;
        tally.clear();
        round.clear();
        return answer(tent.peas);
    }

    public int round(int n) {
        if (!within(n, 0, Math.min(tape.many, MOST_ROUND_BYTES))) {
            return refuse(WRONG_NUMBER);
        }
        tape.begin(n);
        boolean taken = spareRound.parse(tape, tent);
        tape.many = 0;
        if (!taken) {
            return refuse(HAS_FAULT);
        }
        Round old = round;
        round = spareRound;
        spareRound = old;
        round.there = true;
        return answer(round.steps);
    }

    public int fault(int what) {
        if (what == 0) {
            return tape.fault;
        }
        return what == 1 ? tape.place : NONE;
    }

    public int many(int what) {
        switch (what) {
            case 0:
                return answer(tent.inches);
            case 1:
                return answer(tent.bore);
            case 2:
                return answer(tent.far);
            case 3:
                return answer(tent.wind);
            case 4:
                return answer(tent.rings);
            case 5:
                return answer(tent.peas);
            case 6:
                return answer(tent.shooters);
            case 7:
                return answer(tally.spit);
            case 8:
                return answer(tally.holes);
            default:
                return refuse(WRONG_NUMBER);
        }
    }

    public int ring(int ring, int what) {
        if (!within(ring, 0, tent.rings - 1)) {
            return refuse(NO_SUCH_THING);
        }
        if (!within(what, 0, 1)) {
            return refuse(WRONG_NUMBER);
        }
        return answer(what == 0 ? tent.reach[ring] : tent.worth[ring]);
    }

    public int pea(int pea, int what) {
        if (!isPea(pea)) {
            return refuse(NO_SUCH_THING);
        }
        if (within(what, 4, 5) && tent.fitOf(pea) < 0) {
            return refuse(CANNOT_BE);
        }
        switch (what) {
            case 0:
                return answer(tent.size[pea]);
            case 1:
                return answer(tent.weight[pea]);
            case 2:
                return answer(tent.crooked[pea]);
            case 3:
                return answer(tent.wet[pea]);
            case 4:
                return answer(tent.fitOf(pea));
            case 5:
                return answer(tent.rattles(pea) ? 1 : 0);
            default:
                return refuse(WRONG_NUMBER);
        }
    }

    public int shooter(int shooter, int what) {
        if (!isShooter(shooter)) {
            return refuse(NO_SUCH_THING);
        }
        switch (what) {
            case 0:
                return answer(tent.hardest[shooter]);
            case 1:
                return answer(tent.shake[shooter]);
            case 2:
                return answer(tent.right[shooter]);
            case 3:
                return answer(tent.up[shooter]);
            case 4:
                return answer(tally.scores[shooter]);
            case 5:
                tally.gather(shooter, NONE);
                return answer(tally.found);
            default:
                return refuse(WRONG_NUMBER);
        }
    }

    // ---- one SHOT

    public int pace(int pea, int puff, int spit) {
        int wrong = wrongFlight(pea, puff, spit);
        if (wrong != 0) {
            return refuse(wrong);
        }
        return shot.fate == FLIES ? answer(shot.pace) : refuse(CANNOT_BE);
    }

    public int flight(int pea, int puff, int spit, int what) {
        int wrong = wrongFlight(pea, puff, spit);
        if (wrong != 0) {
            return refuse(wrong);
        }
        if (!within(what, 0, 3)) {
            return refuse(WRONG_NUMBER);
        }
        if (shot.fate != FLIES) {
            return refuse(CANNOT_BE);
        }
        switch (what) {
            case 0:
                return answer(shot.time);
            case 1:
                return answer(shot.drop);
            case 2:
                return answer(shot.aside);
            default:
                return answer(shot.off);
        }
    }

    public int becomes(int pea, int puff, int spit) {
        int wrong = wrongFlight(pea, puff, spit);
        if (wrong != 0) {
            return refuse(wrong);
        }
        return answer(shot.fate);
    }

    public int strikes(int shooter, int pea, int puff, int x, int y, int turn, int what) {
        int wrong = wrongShot(shooter, pea, puff, 0, x, y);
        if (wrong != 0) {
            return refuse(wrong);
        }
        if (!within(turn, -1, 1) || !within(what, 0, 1)) {
            return refuse(WRONG_NUMBER);
        }
        takeShot(shooter, pea, puff, 0, x, y);
        shot.reckon(tent);
        if (shot.fate != FLIES) {
            return refuse(CANNOT_BE);
        }
        return answer(what == 0 ? shot.strikeX(tent, turn) : shot.strikeY(tent));
    }

    public int points(int x, int y) {
        if (!within(x, -999, 999) || !within(y, -999, 999)) {
            return refuse(WRONG_NUMBER);
        }
        return answer(tent.worthAt(x, y));
    }

    public int ringAt(int x, int y) {
        if (!within(x, -999, 999) || !within(y, -999, 999)) {
            return refuse(WRONG_NUMBER);
        }
        int ring = tent.lastRing(x, y);
        return ring == NONE ? refuse(THERE_IS_NONE) : answer(ring);
    }

    public int hand(int shooter, int beat) {
        if (!isShooter(shooter)) {
            return refuse(NO_SUCH_THING);
        }
        if (!within(beat, 0, MOST_BEAT)) {
            return refuse(WRONG_NUMBER);
        }
        return answer(tent.shakeOn(shooter, beat));
    }

    // ---- what is best: with the SPIT as it is

    public boolean odds(int shooter, int pea, int puff, int beat, int x, int y, int points) {
        int wrong = wrongShot(shooter, pea, puff, beat, x, y);
        if (wrong != 0) {
            return deny(wrong);
        }
        if (!within(points, 1, MOST_POINTS)) {
            return deny(WRONG_NUMBER);
        }
        takeShot(shooter, pea, puff, beat, x, y);
        chances.reckon(tent, shot);
        tell(chances.atLeast(points), chances.all);
        return agree();
    }

    public boolean mean(int shooter, int pea, int puff, int beat, int x, int y) {
        int wrong = wrongShot(shooter, pea, puff, beat, x, y);
        if (wrong != 0) {
            return deny(wrong);
        }
        takeShot(shooter, pea, puff, beat, x, y);
        chances.reckon(tent, shot);
        tell(chances.sum(), chances.all);
        return agree();
    }

    public int bestAim(int shooter, int pea, int puff, int beat, int what) {
        int wrong = wrongShot(shooter, pea, puff, beat, 0, 0);
        if (wrong != 0) {
            return refuse(wrong);
        }
        if (!within(what, 0, 1)) {
            return refuse(WRONG_NUMBER);
        }
        takeShot(shooter, pea, puff, beat, 0, 0);
        best.begin();
        aims.search(tent, shot, best);
        tell(best.top, best.bottom);
        int aim = what == 0 ? best.which / AIMS : best.which % AIMS;
        return answer(aim - BEST_AIM);
    }

    public int bestPuff(int shooter, int pea, int beat, int x, int y) {
        int wrong = wrongShot(shooter, pea, 1, beat, x, y);
        if (wrong != 0) {
            return refuse(wrong);
        }
        best.begin();
        for (int puff = 1; puff <= tent.hardest[shooter]; puff++) {
            takeShot(shooter, pea, puff, beat, x, y);
            offerMean(puff);
        }
        return answerBest();
    }

    public int bestBeat(int shooter, int pea, int puff, int x, int y) {
        int wrong = wrongShot(shooter, pea, puff, 0, x, y);
        if (wrong != 0) {
            return refuse(wrong);
        }
        best.begin();
        for (int beat = 0; beat <= MOST_BEAT; beat++) {
            takeShot(shooter, pea, puff, beat, x, y);
            offerMean(beat);
        }
        return answerBest();
    }

    public int longest(int shooter, int pea, int puff, int beat, int x, int y) {
        int wrong = wrongShot(shooter, pea, puff, beat, x, y);
        if (wrong != 0) {
            return refuse(wrong);
        }
        best.begin();
        for (int inches = SHORTEST_TUBE; inches <= LONGEST_TUBE; inches++) {
            takeShot(shooter, pea, puff, beat, x, y);
            shot.inches = inches;
            offerMean(inches);
        }
        return answerBest();
    }

    public int bestPea(int shooter, int puff, int beat) {
        if (!isShooter(shooter)) {
            return refuse(NO_SUCH_THING);
        }
        if (!within(puff, 1, tent.hardest[shooter]) || !within(beat, 0, MOST_BEAT)) {
            return refuse(WRONG_NUMBER);
        }
        if (tent.peas == 0) {
            return refuse(THERE_IS_NONE);
        }
        best.begin();
        for (int pea = 0; pea < tent.peas; pea++) {
            takeShot(shooter, pea, puff, beat, 0, 0);
            offerMean(pea);
        }
        return answerBest();
    }

    public boolean series(int shooter, int pea, int puff, int x, int y, int n, int k) {
        int wrong = wrongShot(shooter, pea, puff, STEADY_BEAT, x, y);
        if (wrong != 0) {
            return deny(wrong);
        }
        if (!within(n, 1, MOST_SERIES) || !within(k, 1, MOST_SERIES)) {
            return deny(WRONG_NUMBER);
        }
        takeShot(shooter, pea, puff, STEADY_BEAT, x, y);
        long sum = sumOfSeries(n, k);
        tell(sum, chances.all);
        return agree();
    }

    public int wipeEvery(int shooter, int pea, int puff, int n, int c) {
        int wrong = wrongShot(shooter, pea, puff, STEADY_BEAT, 0, 0);
        if (wrong != 0) {
            return refuse(wrong);
        }
        if (!within(n, 1, MOST_SERIES) || !within(c, 0, 99)) {
            return refuse(WRONG_NUMBER);
        }
        best.begin();
        for (int k = 1; k <= 9; k++) {
            takeShot(shooter, pea, puff, STEADY_BEAT, 0, 0);
            long sum = sumOfSeries(n, k);
            long wipes = n / k;
            best.offer(k, 16L * sum - wipes * c * chances.all, 16L * chances.all);
        }
        return answer(best.which);
    }

    // ---- who wins

    public boolean turns(int a, int peaA, int b, int peaB, int shots, int what) {
        if (!isShooter(a) || !isShooter(b) || !isPea(peaA) || !isPea(peaB)) {
            return deny(NO_SUCH_THING);
        }
        if (!within(shots, 1, MOST_TURNS) || !within(what, 0, 2)) {
            return deny(WRONG_NUMBER);
        }
        setRival(0, a, peaA, shots);
        setRival(1, b, peaB, shots);
        long first = rivals[0].waysAbove(rivals[1]);
        long second = rivals[1].waysAbove(rivals[0]);
        long all = rivals[0].allWays() * rivals[1].allWays();
        if (what == 0) {
            tell(first, all);
        } else if (what == 1) {
            tell(all - first - second, all);
        } else {
            tell(second, all);
        }
        return agree();
    }

    public boolean knock(int tray, int pea, int k) {
        int wrong = wrongKnock(tray, pea, k);
        if (wrong != 0) {
            return deny(wrong);
        }
        for (int i = 0; i < 4; i++) {
            setRival(i, (int) trays[tray].row[i], pea, 1);
        }
        int mate = k % 2 == 0 ? k + 1 : k - 1;
        int left = k < 2 ? 2 : 0;
        int right = left + 1;
        long mateAll = decided(k, mate);
        long otherAll = decided(left, right);
        long leftAll = decided(k, left);
        long rightAll = decided(k, right);
        if (mateAll == 0L || otherAll == 0L || leftAll == 0L || rightAll == 0L) {
            return deny(CANNOT_BE);
        }
        long againstLeft = beats(left, right) * beats(k, left) * rightAll;
        long againstRight = beats(right, left) * beats(k, right) * leftAll;
        tell(beats(k, mate) * (againstLeft + againstRight), mateAll * otherAll * leftAll * rightAll);
        return agree();
    }

    // ---- HOLES

    public int hole(int k, int what) {
        if (!within(what, 0, 3)) {
            return refuse(WRONG_NUMBER);
        }
        if (!within(k, 0, tally.holes - 1)) {
            return refuse(THERE_IS_NONE);
        }
        switch (what) {
            case 0:
                return answer(tally.holeX[k]);
            case 1:
                return answer(tally.holeY[k]);
            case 2:
                return answer(tally.holeShooter[k]);
            default:
                return answer(tally.holePea[k]);
        }
    }

    public boolean lean(int shooter, int pea, int what) {
        if (shooter != NONE && !isShooter(shooter) || pea != NONE && !isPea(pea)) {
            return deny(NO_SUCH_THING);
        }
        if (!within(what, 0, 2)) {
            return deny(WRONG_NUMBER);
        }
        tally.gather(shooter, pea);
        if (tally.found == 0) {
            return deny(THERE_IS_NONE);
        }
        if (what == 0) {
            tell(tally.sumX, tally.found);
        } else if (what == 1) {
            tell(tally.sumY, tally.found);
        } else {
            tell(tally.spreadTop(), tally.spreadBottom());
        }
        return agree();
    }

    public int whose(int x, int y) {
        if (!within(x, -WALL, WALL) || !within(y, -WALL, WALL)) {
            return refuse(WRONG_NUMBER);
        }
        best.begin();
        for (int i = 0; i < tent.shooters; i++) {
            tally.gather(i, NONE);
            if (tally.found > 0) {
                // the nearest is the one with the greatest distance below 0
                best.offer(i, -tally.distanceTop(x, y), tally.spreadBottom());
            }
        }
        return best.any ? answer(best.which) : refuse(THERE_IS_NONE);
    }

    public int worst(int what) {
        if (!within(what, 0, 1)) {
            return refuse(WRONG_NUMBER);
        }
        int many = what == 0 ? tent.shooters : tent.peas;
        best.begin();
        for (int i = 0; i < many; i++) {
            tally.gather(what == 0 ? i : NONE, what == 0 ? NONE : i);
            if (tally.found > 0) {
                best.offer(i, tally.spreadTop(), tally.spreadBottom());
            }
        }
        return best.any ? answer(best.which) : refuse(THERE_IS_NONE);
    }

    public int sieve(int wide) {
        if (!within(wide, 1, 12)) {
            return refuse(WRONG_NUMBER);
        }
        int set = 0;
        for (int pea = 0; pea < tent.peas; pea++) {
            if (tent.size[pea] <= wide) {
                set |= 1 << pea;
            }
        }
        return answer(set);
    }

    public int same() {
        return answer(tally.couples());
    }

    // ---- by hand

    public int shoot(int shooter, int pea, int puff, int x, int y, int turn, int handX, int handY) {
        int wrong = wrongShot(shooter, pea, puff, 0, x, y);
        if (wrong != 0) {
            return refuse(wrong);
        }
        if (!within(turn, -1, 1) || !within(handX, -MOST_SHAKE, MOST_SHAKE) || !within(handY, -MOST_SHAKE, MOST_SHAKE)) {
            return refuse(WRONG_NUMBER);
        }
        if (tally.holes >= MOST_HOLES) {
            return refuse(ONE_TOO_MANY);
        }
        takeShot(shooter, pea, puff, 0, x, y);
        shot.reckon(tent);
        if (shot.fate != FLIES) {
            return refuse(CANNOT_BE);
        }
        return answer(tally.strike(tent, shot, shot.strikeX(tent, turn) + handX, shot.strikeY(tent) + handY));
    }

    public int wipe() {
        int spit = tally.spit;
        tally.spit = 0;
        return answer(spit);
    }

    // ---- ROUNDS

    public int play(int seed) {
        if (!within(seed, 0, MOST_SEED)) {
            return refuse(WRONG_NUMBER);
        }
        if (!round.there) {
            return refuse(THERE_IS_NONE);
        }
        player.run(round, tent, tally, seed);
        return answer(player.steps);
    }

    public int played(int what) {
        if (!within(what, 0, 4)) {
            return refuse(WRONG_NUMBER);
        }
        if (!player.hasRun) {
            return refuse(THERE_IS_NONE);
        }
        switch (what) {
            case 0:
                return answer(player.missed);
            case 1:
                return answer(player.flew);
            case 2:
                return answer(player.failed);
            case 3:
                return answer(player.points);
            default:
                return answer(player.left);
        }
    }

    public boolean wins(int shooter, int seed, int many) {
        if (!isShooter(shooter)) {
            return deny(NO_SUCH_THING);
        }
        if (!within(seed, 0, MOST_SEED) || !within(many, 1, 20) || seed + many - 1 > MOST_SEED) {
            return deny(WRONG_NUMBER);
        }
        if (!round.there) {
            return deny(THERE_IS_NONE);
        }
        int won = 0;
        for (int i = 0; i < many; i++) {
            trialTally.copy(tally);
            trialPlayer.run(round, tent, trialTally, seed + i);
            if (trialTally.leads(shooter, tent.shooters)) {
                won++;
            }
        }
        tell(won, many);
        return agree();
    }

    // ---- MARKS

    public int mark() {
        if (marked >= MOST_MARKS) {
            return refuse(ONE_TOO_MANY);
        }
        marks[marked].keep(tent, round, tally);
        marked++;
        return answer(marked);
    }

    public int back() {
        if (marked <= 0) {
            return refuse(THERE_IS_NONE);
        }
        marked--;
        marks[marked].giveBack(tent, round, tally);
        return answer(marked);
    }

    // ---- what the calls share

    private int answer(int value) {
        status = 0;
        return value;
    }

    private int refuse(int why) {
        status = why;
        return NONE;
    }

    private boolean agree() {
        status = 0;
        return true;
    }

    private boolean deny(int why) {
        status = why;
        return false;
    }

    /** The FRACTION becomes this one, without a common divisor. */
    private void tell(long newTop, long newBottom) {
        long divisor = commonDivisor(Math.abs(newTop), newBottom);
        if (newTop == 0L || divisor <= 0L) {
            top = 0L;
            bottom = 1L;
            return;
        }
        top = newTop / divisor;
        bottom = newBottom / divisor;
    }

    private static long commonDivisor(long a, long b) {
        long large = a;
        long small = b;
        // each two turns halve the larger one: 64 bits are through in 128
        for (int i = 0; i < 130 && small != 0L; i++) {
            long rest = large % small;
            large = small;
            small = rest;
        }
        return large;
    }

    private static boolean within(int value, int least, int most) {
        return value >= least && value <= most;
    }

    private static boolean isTray(int tray) {
        return within(tray, 0, MOST_TRAYS - 1);
    }

    private boolean isPea(int pea) {
        return within(pea, 0, tent.peas - 1);
    }

    private boolean isShooter(int shooter) {
        return within(shooter, 0, tent.shooters - 1);
    }

    private int wrongPlace(int tray, int place) {
        if (!isTray(tray)) {
            return NO_SUCH_TRAY;
        }
        if (!trays[tray].there) {
            return TRAY_MISSING;
        }
        return trays[tray].hasFrom(place, 1) ? 0 : NO_SUCH_PLACE;
    }

    /** The STATUS that a flight without a SHOOTER has; if it is 0 the shot is reckoned. */
    private int wrongFlight(int pea, int puff, int spit) {
        if (!isPea(pea)) {
            return NO_SUCH_THING;
        }
        if (!within(puff, 1, MOST_PUFF) || !within(spit, 0, MOST_SPIT)) {
            return WRONG_NUMBER;
        }
        takeShot(NONE, pea, puff, 0, 0, 0);
        shot.spit = spit;
        shot.reckon(tent);
        return 0;
    }

    private int wrongShot(int shooter, int pea, int puff, int beat, int x, int y) {
        if (!isShooter(shooter) || !isPea(pea)) {
            return NO_SUCH_THING;
        }
        boolean fine = within(puff, 1, tent.hardest[shooter]) && within(beat, 0, MOST_BEAT)
            && within(x, -MOST_AIM, MOST_AIM) && within(y, -MOST_AIM, MOST_AIM);
        return fine ? 0 : WRONG_NUMBER;
    }

    private int wrongKnock(int tray, int pea, int k) {
        int wrong = wrongPlace(tray, 3);
        if (wrong != 0) {
            return wrong;
        }
        if (!isPea(pea)) {
            return NO_SUCH_THING;
        }
        for (int i = 0; i < 4; i++) {
            long shooter = trays[tray].row[i];
            if (shooter < 0L || shooter >= tent.shooters) {
                return NO_SUCH_THING;
            }
        }
        return within(k, 0, 3) ? 0 : WRONG_NUMBER;
    }

    private void takeShot(int shooter, int pea, int puff, int beat, int x, int y) {
        shot.shooter = shooter;
        shot.pea = pea;
        shot.puff = puff;
        shot.beat = beat;
        shot.x = x;
        shot.y = y;
        shot.spit = tally.spit;
        shot.inches = tent.inches;
    }

    private void offerMean(int which) {
        chances.reckon(tent, shot);
        best.offer(which, chances.sum(), chances.all);
    }

    private int answerBest() {
        tell(best.top, best.bottom);
        return answer(best.which);
    }

    /** All POINTS of n SHOTS with the shot's aim, from SPIT 0 on, by chances.all. */
    private long sumOfSeries(int n, int k) {
        long sum = 0L;
        shot.spit = 0;
        for (int i = 1; i <= n; i++) {
            chances.reckon(tent, shot);
            sum += chances.sum();
            if (shot.fate == FLIES) {
                shot.spit = Math.min(MOST_SPIT, shot.spit + 1);
            }
            if (k > 0 && i % k == 0) {
                shot.spit = 0;
            }
        }
        return sum;
    }

    /** One of those who shoot against one another: the hardest PUFF, the middle, SPIT 0 at each SHOT. */
    private void setRival(int place, int shooter, int pea, int shots) {
        takeShot(shooter, pea, tent.hardest[shooter], STEADY_BEAT, 0, 0);
        shot.spit = 0;
        rivals[place].reckon(tent, shot);
        rivals[place].addUp(shots);
    }

    private long beats(int one, int other) {
        return rivals[one].waysAbove(rivals[other]);
    }

    private long decided(int one, int other) {
        return beats(one, other) + beats(other, one);
    }

    /** A TRAY; its row is made once and laid again. */
    private static final class Tray {
        boolean there;
        int sort;
        int many;
        final long[] row = new long[MOST_NUMBERS];

        void lay(int newSort, int newMany) {
            there = true;
            sort = newSort;
            many = newMany;
            Arrays.fill(row, 0L);
        }

        boolean hasFrom(int place, int count) {
            return place >= 0 && count >= 0 && count <= many && place <= many - count;
        }

        void put(int place, long value) {
            if (!hasFrom(place, 1)) {
                return;
            }
            switch (sort) {
                case 0:
                    row[place] = (byte) value;
                    break;
                case 1:
                    row[place] = (short) value;
                    break;
                case 2:
                    row[place] = (int) value;
                    break;
                default:
                    row[place] = value;
                    break;
            }
        }
    }

    /** The tape, its TOKENS one after the other, and the FAULT of the latest text. */
    private static final class Tape {
        static final int AT_END = 0;
        static final int AT_WORD = 1;
        static final int AT_NUMBER = 2;
        static final int AT_SIGN = 3;
        static final int AT_NOTHING = 4;

        final byte[] bytes = new byte[MOST_BYTES];
        int many;
        int fault = NONE;
        int place = NONE;
        int kind;
        /** Which of the WORDS that no NAME may be the TOKEN is, or NONE. */
        int word;
        /** A WORD's letters as digits by 32; 0 if it has too many of them to be a NAME. */
        long name;
        int number;
        int sign;
        /** The NUMBER, or the sign that COMPARES, taken latest. */
        int taken;
        private int length;
        private int at;
        private int start;
        /** The WORDS that no NAME may be, each as name is. */
        private final long[] names = new long[MOST_WORDS];

        Tape() {
            long letters = 0L;
            int which = 0;
            for (int i = 0; i < WORDS.length() && which < MOST_WORDS; i++) {
                if (isLetter(WORDS.charAt(i))) {
                    letters = withLetter(letters, WORDS.charAt(i));
                } else {
                    names[which] = letters;
                    which++;
                    letters = 0L;
                }
            }
        }

        void append(int four) {
            for (int shift = 24; shift >= 0 && many < MOST_BYTES; shift -= 8) {
                bytes[many] = (byte) (four >> shift);
                many++;
            }
        }

        void begin(int n) {
            length = Math.max(0, Math.min(n, many));
            at = 0;
            fault = 0;
            place = NONE;
            advance();
        }

        /** A TOKEN that can't be one has FAULT 1 whatever else is wrong with it. */
        boolean refuseHere(int why) {
            fault = kind == AT_NOTHING ? FAULT_TOKEN : why;
            place = start;
            return false;
        }

        void advance() {
            while (at < length && (bytes[at] == 10 || bytes[at] == 32)) {
                at++;
            }
            start = at;
            word = NONE;
            name = 0L;
            number = NONE;
            sign = NONE;
            if (at >= length) {
                kind = AT_END;
            } else if (isLetter(bytes[at])) {
                scanWord();
            } else if (isDigit(bytes[at])) {
                scanNumber();
            } else if (isSign(bytes[at])) {
                kind = AT_SIGN;
                sign = bytes[at];
                at++;
            } else {
                kind = AT_NOTHING;
            }
        }

        private void scanWord() {
            long letters = 0L;
            while (at < length && isLetter(bytes[at])) {
                letters = withLetter(letters, bytes[at]);
                at++;
            }
            kind = AT_WORD;
            name = at - start > MOST_LETTERS ? 0L : letters;
            for (int i = 0; i < MOST_WORDS; i++) {
                if (names[i] == name) {
                    word = i;
                }
            }
        }

        private static long withLetter(long letters, int letter) {
            return letters * 32L + (letter - 'a' + 1);
        }

        private void scanNumber() {
            int value = 0;
            while (at < length && isDigit(bytes[at])) {
                value = value * 10 + (bytes[at] - '0');
                at++;
            }
            kind = at - start > 4 ? AT_NOTHING : AT_NUMBER;
            number = value;
        }

        boolean atName() {
            return kind == AT_WORD && word == NONE && name != 0L;
        }

        boolean takeNumber(int least, int most) {
            if (kind != AT_NUMBER) {
                return refuseHere(FAULT_STANDS_WRONG);
            }
            if (number < least || number > most) {
                return refuseHere(FAULT_NUMBER);
            }
            taken = number;
            advance();
            return true;
        }

        boolean takeWord(int which) {
            return skipWord(which) || refuseHere(FAULT_STANDS_WRONG);
        }

        /** A WORD that may be there: whether it was. */
        boolean skipWord(int which) {
            if (word != which) {
                return false;
            }
            advance();
            return true;
        }

        boolean takeSemicolon() {
            if (sign != ';') {
                return refuseHere(FAULT_STANDS_WRONG);
            }
            advance();
            return true;
        }

        boolean takeCompares() {
            if (sign != '<' && sign != '>' && sign != '=') {
                return refuseHere(FAULT_STANDS_WRONG);
            }
            taken = sign;
            advance();
            return true;
        }

        private static boolean isLetter(int b) {
            return b >= 'a' && b <= 'z';
        }

        private static boolean isDigit(int b) {
            return b >= '0' && b <= '9';
        }

        private static boolean isSign(int b) {
            return b == ';' || b == '<' || b == '>' || b == '=';
        }
    }

    /** A TENT, and how one is taken from the tape. */
    private static final class Tent {
        int inches;
        int bore;
        int far;
        int wind;
        int rings;
        final int[] reach = new int[MOST_RINGS];
        final int[] worth = new int[MOST_RINGS];
        int peas;
        final long[] peaName = new long[MOST_PEAS];
        final int[] size = new int[MOST_PEAS];
        final int[] weight = new int[MOST_PEAS];
        final int[] crooked = new int[MOST_PEAS];
        final int[] wet = new int[MOST_PEAS];
        int shooters;
        final long[] shooterName = new long[MOST_SHOOTERS];
        final int[] hardest = new int[MOST_SHOOTERS];
        final int[] shake = new int[MOST_SHOOTERS];
        final int[] right = new int[MOST_SHOOTERS];
        final int[] up = new int[MOST_SHOOTERS];
        /** Which of tube, far, wind are told: a bit each, by their WORD. */
        private int told;

        Tent() {
            clear();
        }

        void clear() {
            inches = 24;
            bore = 8;
            far = 12;
            wind = 0;
            rings = 0;
            peas = 0;
            shooters = 0;
            told = 0;
        }

        void copy(Tent from) {
            inches = from.inches;
            bore = from.bore;
            far = from.far;
            wind = from.wind;
            rings = from.rings;
            peas = from.peas;
            shooters = from.shooters;
            System.arraycopy(from.reach, 0, reach, 0, MOST_RINGS);
            System.arraycopy(from.worth, 0, worth, 0, MOST_RINGS);
            System.arraycopy(from.peaName, 0, peaName, 0, MOST_PEAS);
            System.arraycopy(from.size, 0, size, 0, MOST_PEAS);
            System.arraycopy(from.weight, 0, weight, 0, MOST_PEAS);
            System.arraycopy(from.crooked, 0, crooked, 0, MOST_PEAS);
            System.arraycopy(from.wet, 0, wet, 0, MOST_PEAS);
            System.arraycopy(from.shooterName, 0, shooterName, 0, MOST_SHOOTERS);
            System.arraycopy(from.hardest, 0, hardest, 0, MOST_SHOOTERS);
            System.arraycopy(from.shake, 0, shake, 0, MOST_SHOOTERS);
            System.arraycopy(from.right, 0, right, 0, MOST_SHOOTERS);
            System.arraycopy(from.up, 0, up, 0, MOST_SHOOTERS);
        }

        boolean parse(Tape tape) {
            clear();
            for (int i = 0; i < MOST_BYTES && tape.kind != Tape.AT_END; i++) {
                boolean fine;
                switch (tape.word) {
                    case TUBE:
                        fine = parseTube(tape);
                        break;
                    case FAR:
                        fine = parseFar(tape);
                        break;
                    case WIND:
                        fine = parseWind(tape);
                        break;
                    case RING:
                        fine = parseRing(tape);
                        break;
                    case PEA:
                        fine = parsePea(tape);
                        break;
                    case SHOOTER:
                        fine = parseShooter(tape);
                        break;
                    default:
                        fine = tape.refuseHere(FAULT_STANDS_WRONG);
                        break;
                }
                if (!fine) {
                    return false;
                }
            }
            return true;
        }

        private boolean beginOnce(Tape tape, int which) {
            int bit = 1 << which;
            if ((told & bit) != 0) {
                return tape.refuseHere(FAULT_TOLD_ALREADY);
            }
            told |= bit;
            tape.advance();
            return true;
        }

        private boolean parseTube(Tape tape) {
            if (!beginOnce(tape, TUBE) || !tape.takeNumber(SHORTEST_TUBE, LONGEST_TUBE)) {
                return false;
            }
            inches = tape.taken;
            if (!tape.takeWord(BORE) || !tape.takeNumber(3, 12)) {
                return false;
            }
            bore = tape.taken;
            return tape.takeSemicolon();
        }

        private boolean parseFar(Tape tape) {
            if (!beginOnce(tape, FAR) || !tape.takeNumber(4, 20)) {
                return false;
            }
            far = tape.taken;
            return tape.takeSemicolon();
        }

        private boolean parseWind(Tape tape) {
            if (!beginOnce(tape, WIND) || !tape.takeNumber(0, 9)) {
                return false;
            }
            int blows = tape.taken;
            wind = tape.skipWord(LEFT) ? -blows : blows;
            return tape.takeSemicolon();
        }

        private boolean parseRing(Tape tape) {
            if (rings >= MOST_RINGS) {
                return tape.refuseHere(FAULT_TOO_MANY);
            }
            int most = rings == 0 ? 60 : reach[rings - 1] - 1;
            int least = rings == 0 ? 1 : worth[rings - 1] + 1;
            tape.advance();
            if (!tape.takeNumber(1, most)) {
                return false;
            }
            reach[rings] = tape.taken;
            if (!tape.takeWord(WORTH) || !tape.takeNumber(least, MOST_POINTS)) {
                return false;
            }
            worth[rings] = tape.taken;
            rings++;
            return tape.takeSemicolon();
        }

        private boolean parsePea(Tape tape) {
            if (peas >= MOST_PEAS) {
                return tape.refuseHere(FAULT_TOO_MANY);
            }
            tape.advance();
            int pea = peas;
            peaName[pea] = tape.name;
            if (!takeNewName(tape) || !tape.takeWord(SIZE) || !tape.takeNumber(1, 12)) {
                return false;
            }
            size[pea] = tape.taken;
            if (!tape.takeWord(WEIGHT) || !tape.takeNumber(1, 20)) {
                return false;
            }
            weight[pea] = tape.taken;
            crooked[pea] = 0;
            if (tape.skipWord(CROOKED)) {
                if (!tape.takeNumber(0, 4)) {
                    return false;
                }
                crooked[pea] = tape.taken;
            }
            wet[pea] = tape.skipWord(WET) ? 1 : 0;
            peas++;
            return tape.takeSemicolon();
        }

        private boolean parseShooter(Tape tape) {
            if (shooters >= MOST_SHOOTERS) {
                return tape.refuseHere(FAULT_TOO_MANY);
            }
            tape.advance();
            int shooter = shooters;
            shooterName[shooter] = tape.name;
            if (!takeNewName(tape) || !tape.takeWord(PUFF) || !tape.takeNumber(1, MOST_PUFF)) {
                return false;
            }
            hardest[shooter] = tape.taken;
            if (!tape.takeWord(SHAKE) || !tape.takeNumber(0, MOST_SHAKE)) {
                return false;
            }
            shake[shooter] = tape.taken;
            right[shooter] = 0;
            up[shooter] = 0;
            if (tape.skipWord(LEAN) && !parseLean(tape, shooter)) {
                return false;
            }
            shooters++;
            return tape.takeSemicolon();
        }

        private boolean parseLean(Tape tape, int shooter) {
            if (!tape.takeNumber(0, 9)) {
                return false;
            }
            right[shooter] = tape.taken;
            if (!tape.takeNumber(0, 9)) {
                return false;
            }
            int high = tape.taken;
            up[shooter] = tape.skipWord(LOW) ? -high : high;
            return true;
        }

        private boolean takeNewName(Tape tape) {
            if (!tape.atName()) {
                return tape.refuseHere(FAULT_STANDS_WRONG);
            }
            if (findPea(tape.name) != NONE || findShooter(tape.name) != NONE) {
                return tape.refuseHere(FAULT_NAME);
            }
            tape.advance();
            return true;
        }

        int findPea(long name) {
            for (int i = 0; i < peas; i++) {
                if (peaName[i] == name) {
                    return i;
                }
            }
            return NONE;
        }

        int findShooter(long name) {
            for (int i = 0; i < shooters; i++) {
                if (shooterName[i] == name) {
                    return i;
                }
            }
            return NONE;
        }

        int fitOf(int pea) {
            return bore - size[pea];
        }

        boolean rattles(int pea) {
            return fitOf(pea) >= 3;
        }

        int shakeOn(int shooter, int beat) {
            int most = shake[shooter];
            switch (beat) {
                case 0:
                    return most;
                case 1:
                    return (most + 1) / 2;
                case 2:
                    return Math.min(most, 1);
                default:
                    return 0;
            }
        }

        /** RINGS told behind reach less, so the first that is too small ends the search. */
        int lastRing(int x, int y) {
            int square = x * x + y * y;
            int last = NONE;
            for (int i = 0; i < rings && square <= reach[i] * reach[i]; i++) {
                last = i;
            }
            return last;
        }

        int worthAt(int x, int y) {
            int ring = lastRing(x, y);
            return ring == NONE ? 0 : worth[ring];
        }
    }

    /** A ROUND as a row of STEPS and ends; which of the numbers a STEP uses is its own matter. */
    private static final class Round {
        static final int MOST_STEPS = 30;
        static final int MOST_OPS = 60;
        static final int MOST_DEPTH = 3;
        /** In place of a SHOOTER in a TEST. */
        static final int TEST_HOLES = -1;
        static final int TEST_SPIT = -2;

        boolean there;
        int steps;
        int ops;
        final int[] op = new int[MOST_OPS];
        final int[] first = new int[MOST_OPS];
        final int[] second = new int[MOST_OPS];
        final int[] third = new int[MOST_OPS];
        /** Of a when, loop its end; of an end what it ends. */
        final int[] mate = new int[MOST_OPS];
        private int depth;
        private final int[] open = new int[MOST_DEPTH];

        void clear() {
            there = false;
            steps = 0;
            ops = 0;
            depth = 0;
        }

        void copy(Round from) {
            there = from.there;
            steps = from.steps;
            ops = from.ops;
            System.arraycopy(from.op, 0, op, 0, MOST_OPS);
            System.arraycopy(from.first, 0, first, 0, MOST_OPS);
            System.arraycopy(from.second, 0, second, 0, MOST_OPS);
            System.arraycopy(from.third, 0, third, 0, MOST_OPS);
            System.arraycopy(from.mate, 0, mate, 0, MOST_OPS);
        }

        boolean parse(Tape tape, Tent tent) {
            clear();
            for (int i = 0; i < MOST_ROUND_BYTES && tape.kind != Tape.AT_END; i++) {
                int step = tape.word;
                int place = ops;
                boolean fine = step == END ? ends(tape) : begins(tape, step) && parseRest(tape, tent, step, place);
                if (!fine || !tape.takeSemicolon()) {
                    return false;
                }
            }
            return depth == 0 || tape.refuseHere(FAULT_STANDS_WRONG);
        }

        private boolean ends(Tape tape) {
            if (depth <= 0 || ops >= MOST_OPS) {
                return tape.refuseHere(FAULT_STANDS_WRONG);
            }
            depth--;
            int begin = open[depth];
            op[ops] = END;
            mate[ops] = begin;
            mate[begin] = ops;
            ops++;
            tape.advance();
            return true;
        }

        private boolean begins(Tape tape, int step) {
            if (!isStep(step)) {
                return tape.refuseHere(FAULT_STANDS_WRONG);
            }
            if (steps >= MOST_STEPS || ops >= MOST_OPS) {
                return tape.refuseHere(FAULT_TOO_MANY);
            }
            if (step == WHEN || step == LOOP) {
                if (depth >= MOST_DEPTH) {
                    return tape.refuseHere(FAULT_TOO_DEEP);
                }
                open[depth] = ops;
                depth++;
            }
            op[ops] = step;
            steps++;
            ops++;
            tape.advance();
            return true;
        }

        private static boolean isStep(int word) {
            return word >= LOAD && word <= WHEN || word == LOOP || word == STOP || word == PUFF;
        }

        private boolean parseRest(Tape tape, Tent tent, int step, int place) {
            switch (step) {
                case LOAD:
                    first[place] = tent.findPea(tape.name);
                    return takeKnownName(tape, first[place]);
                case SHOOT:
                    first[place] = tent.findShooter(tape.name);
                    return takeKnownName(tape, first[place]);
                case AIM:
                    return parseAim(tape, place);
                case PUFF:
                    return parseNumber(tape, place, 1, MOST_PUFF);
                case BEAT:
                    return parseNumber(tape, place, 0, MOST_BEAT);
                case LOOP:
                    return parseNumber(tape, place, 1, 99);
                case WHEN:
                    return parseTest(tape, tent, place);
                default:
                    return true;
            }
        }

        private static boolean takeKnownName(Tape tape, int found) {
            if (!tape.atName()) {
                return tape.refuseHere(FAULT_STANDS_WRONG);
            }
            if (found == NONE) {
                return tape.refuseHere(FAULT_NAME);
            }
            tape.advance();
            return true;
        }

        private boolean parseNumber(Tape tape, int place, int least, int most) {
            if (!tape.takeNumber(least, most)) {
                return false;
            }
            first[place] = tape.taken;
            return true;
        }

        private boolean parseAim(Tape tape, int place) {
            if (!tape.takeNumber(0, MOST_AIM)) {
                return false;
            }
            int x = tape.taken;
            if (!tape.takeNumber(0, MOST_AIM)) {
                return false;
            }
            int y = tape.taken;
            first[place] = tape.skipWord(LEFT) ? -x : x;
            second[place] = tape.skipWord(LOW) ? -y : y;
            return true;
        }

        private boolean parseTest(Tape tape, Tent tent, int place) {
            int most;
            if (tape.skipWord(SCORE)) {
                most = 999;
                first[place] = tent.findShooter(tape.name);
                if (!takeKnownName(tape, first[place])) {
                    return false;
                }
            } else if (tape.skipWord(HOLES)) {
                most = MOST_HOLES;
                first[place] = TEST_HOLES;
            } else if (tape.skipWord(SPIT)) {
                most = MOST_SPIT;
                first[place] = TEST_SPIT;
            } else {
                return tape.refuseHere(FAULT_STANDS_WRONG);
            }
            if (!tape.takeCompares()) {
                return false;
            }
            second[place] = tape.taken;
            if (!tape.takeNumber(0, most)) {
                return false;
            }
            third[place] = tape.taken;
            return true;
        }
    }

    /** SPIT, HOLES and scores, and what is told from the HOLES. */
    private static final class Tally {
        int spit;
        int holes;
        final int[] holeX = new int[MOST_HOLES];
        final int[] holeY = new int[MOST_HOLES];
        final int[] holeShooter = new int[MOST_HOLES];
        final int[] holePea = new int[MOST_HOLES];
        final int[] scores = new int[MOST_SHOOTERS];
        /** What gather() found. */
        int found;
        long sumX;
        long sumY;
        private long sumSquares;

        void clear() {
            spit = 0;
            holes = 0;
            Arrays.fill(scores, 0);
        }

        void copy(Tally from) {
            spit = from.spit;
            holes = from.holes;
            System.arraycopy(from.holeX, 0, holeX, 0, MOST_HOLES);
            System.arraycopy(from.holeY, 0, holeY, 0, MOST_HOLES);
            System.arraycopy(from.holeShooter, 0, holeShooter, 0, MOST_HOLES);
            System.arraycopy(from.holePea, 0, holePea, 0, MOST_HOLES);
            System.arraycopy(from.scores, 0, scores, 0, MOST_SHOOTERS);
        }

        /** A SHOT that flew comes to x, y: its POINTS. */
        int strike(Tent tent, Shot shot, int x, int y) {
            int points = tent.worthAt(x, y);
            scores[shot.shooter] += points;
            spit = Math.min(MOST_SPIT, spit + 1);
            if (within(x, -WALL, WALL) && within(y, -WALL, WALL) && holes < MOST_HOLES) {
                holeX[holes] = x;
                holeY[holes] = y;
                holeShooter[holes] = shot.shooter;
                holePea[holes] = shot.pea;
                holes++;
            }
            return points;
        }

        void gather(int shooter, int pea) {
            found = 0;
            sumX = 0L;
            sumY = 0L;
            sumSquares = 0L;
            for (int i = 0; i < holes; i++) {
                boolean by = shooter == NONE || holeShooter[i] == shooter;
                boolean of = pea == NONE || holePea[i] == pea;
                if (by && of) {
                    found++;
                    sumX += holeX[i];
                    sumY += holeY[i];
                    sumSquares += holeX[i] * holeX[i] + holeY[i] * holeY[i];
                }
            }
        }

        long spreadTop() {
            return found * sumSquares - sumX * sumX - sumY * sumY;
        }

        long spreadBottom() {
            return (long) found * found;
        }

        /** The square of how far the mean is from x, y, by spreadBottom(). */
        long distanceTop(int x, int y) {
            long aside = (long) found * x - sumX;
            long above = (long) found * y - sumY;
            return aside * aside + above * above;
        }

        int couples() {
            int same = 0;
            for (int i = 0; i < holes; i++) {
                for (int j = i + 1; j < holes; j++) {
                    if (holeX[i] == holeX[j] && holeY[i] == holeY[j]) {
                        same++;
                    }
                }
            }
            return same;
        }

        boolean leads(int shooter, int shooters) {
            for (int i = 0; i < shooters; i++) {
                if (i != shooter && scores[i] >= scores[shooter]) {
                    return false;
                }
            }
            return true;
        }
    }

    /** What a MARK keeps. */
    private static final class Kept {
        private final Tent tent = new Tent();
        private final Round round = new Round();
        private final Tally tally = new Tally();

        void keep(Tent fromTent, Round fromRound, Tally fromTally) {
            tent.copy(fromTent);
            round.copy(fromRound);
            tally.copy(fromTally);
        }

        void giveBack(Tent toTent, Round toRound, Tally toTally) {
            toTent.copy(tent);
            toRound.copy(round);
            toTally.copy(tally);
        }
    }

    /** One SHOT: what it is made with, and what reckon() finds of it, the HAND still. */
    private static final class Shot {
        int shooter;
        int pea;
        int puff;
        int beat;
        int x;
        int y;
        int spit;
        int inches;
        int fate;
        int pace;
        int time;
        int drop;
        int aside;
        int off;

        void reckon(Tent tent) {
            int fit = tent.fitOf(pea);
            if (fit < 0) {
                fate = DOES_NOT_GO_IN;
                return;
            }
            boolean wet = tent.wet[pea] == 1;
            pace = paceOf(tent.weight[pea] + fit + spit, wet);
            if (spit >= 8 || wet && spit >= 3) {
                fate = STICKS;
            } else if (pace < 24) {
                fate = DROPS;
            } else {
                fate = FLIES;
                fly(tent);
            }
        }

        private int paceOf(int slowness, boolean wet) {
            if (slowness <= 0) {
                return 0;
            }
            int dry = puff * inches / slowness;
            return wet ? dry / 2 : dry;
        }

        private void fly(Tent tent) {
            if (pace <= 0) {
                return;
            }
            time = (tent.far * 240 + pace - 1) / pace;
            drop = time * time / 64;
            int blown = Math.abs(tent.wind) * time / 8;
            aside = tent.wind < 0 ? -blown : blown;
            int turned = tent.crooked[pea] * time / 16;
            off = tent.rattles(pea) ? 2 * turned : turned;
        }

        int strikeX(Tent tent, int turn) {
            return x + tent.right[shooter] + aside + turn * off;
        }

        int strikeY(Tent tent) {
            return y + tent.up[shooter] - drop;
        }
    }

    /** In how many of all even chances a SHOT has so many POINTS, and several SHOTS together. */
    private static final class Chances {
        final int[] counts = new int[MOST_POINTS + 1];
        /** Each turn is counted, with OFF 0 too, so that this is the same for one HAND. */
        int all;
        private final long[] ways = new long[MOST_TURNS * MOST_POINTS + 1];

        void reckon(Tent tent, Shot shot) {
            Arrays.fill(counts, 0);
            shot.reckon(tent);
            int n = tent.shakeOn(shot.shooter, shot.beat);
            all = 2 * (2 * n + 1) * (2 * n + 1);
            if (shot.fate != FLIES) {
                counts[0] = all;
                return;
            }
            int y = shot.strikeY(tent);
            if (shot.off == 0) {
                count(tent, shot.strikeX(tent, 0), y, n, 2);
            } else {
                count(tent, shot.strikeX(tent, 1), y, n, 1);
                count(tent, shot.strikeX(tent, -1), y, n, 1);
            }
        }

        private void count(Tent tent, int x, int y, int n, int times) {
            for (int i = x - n; i <= x + n; i++) {
                for (int j = y - n; j <= y + n; j++) {
                    counts[tent.worthAt(i, j)] += times;
                }
            }
        }

        long sum() {
            long sum = 0L;
            for (int i = 1; i <= MOST_POINTS; i++) {
                sum += (long) i * counts[i];
            }
            return sum;
        }

        long atLeast(int points) {
            long many = 0L;
            for (int i = Math.max(0, points); i <= MOST_POINTS; i++) {
                many += counts[i];
            }
            return many;
        }

        /** The ways to so many POINTS in all become those of so many SHOTS. */
        void addUp(int shots) {
            Arrays.fill(ways, 0L);
            ways[0] = 1L;
            for (int i = 0; i < shots; i++) {
                // from above, so that what is still needed is not yet changed
                for (int points = MOST_TURNS * MOST_POINTS; points >= 0; points--) {
                    ways[points] = waysWithOneMore(points);
                }
            }
        }

        private long waysWithOneMore(int points) {
            long many = 0L;
            for (int i = 0; i <= MOST_POINTS && i <= points; i++) {
                many += ways[points - i] * counts[i];
            }
            return many;
        }

        long allWays() {
            long many = 0L;
            for (int i = 0; i <= MOST_TURNS * MOST_POINTS; i++) {
                many += ways[i];
            }
            return many;
        }

        /** In how many couples of ways this one has more POINTS than the other. */
        long waysAbove(Chances other) {
            long many = 0L;
            long below = 0L;
            for (int i = 0; i <= MOST_TURNS * MOST_POINTS; i++) {
                many += ways[i] * below;
                below += other.ways[i];
            }
            return many;
        }
    }

    /**
     * The search for the BEST AIM. For the aim's x in turn it holds the POINTS of each aim's y;
     * with the next x one column of the board comes to them and one leaves, which spares
     * looking at each place for each aim.
     */
    private static final class AimSearch {
        private final int[] sums = new int[AIMS];
        private final int[] column = new int[AIMS + 2 * MOST_SHAKE];

        void search(Tent tent, Shot shot, Best best) {
            Arrays.fill(sums, 0);
            shot.reckon(tent);
            int n = Math.min(MOST_SHAKE, tent.shakeOn(shot.shooter, shot.beat));
            int all = 2 * (2 * n + 1) * (2 * n + 1);
            if (shot.fate != FLIES) {
                best.offer(0, 0L, all);
                return;
            }
            for (int i = -n; i < n; i++) {
                addColumns(tent, shot, i - BEST_AIM, n, 1);
            }
            for (int i = 0; i < AIMS; i++) {
                int aim = i - BEST_AIM;
                addColumns(tent, shot, aim + n, n, 1);
                for (int j = 0; j < AIMS; j++) {
                    best.offer(i * AIMS + j, sums[j], all);
                }
                addColumns(tent, shot, aim - n, n, -1);
            }
        }

        private void addColumns(Tent tent, Shot shot, int x, int n, int times) {
            if (shot.off == 0) {
                addColumn(tent, shot, x + shot.strikeX(tent, 0), n, 2 * times);
            } else {
                addColumn(tent, shot, x + shot.strikeX(tent, 1), n, times);
                addColumn(tent, shot, x + shot.strikeX(tent, -1), n, times);
            }
        }

        private void addColumn(Tent tent, Shot shot, int x, int n, int times) {
            int lowest = shot.strikeY(tent) - BEST_AIM - n;
            int high = 2 * n;
            for (int j = 0; j < AIMS + high; j++) {
                column[j] = tent.worthAt(x, lowest + j);
            }
            int window = 0;
            for (int j = 0; j < high; j++) {
                window += column[j];
            }
            for (int j = 0; j < AIMS; j++) {
                window += column[j + high];
                sums[j] += times * window;
                window -= column[j];
            }
        }
    }

    /** The greatest of fractions, of several the first one offered; the bottoms are above 0. */
    private static final class Best {
        boolean any;
        int which;
        long top;
        long bottom;

        void begin() {
            any = false;
            which = NONE;
            top = 0L;
            bottom = 1L;
        }

        void offer(int newWhich, long newTop, long newBottom) {
            if (!any || newTop * bottom > top * newBottom) {
                any = true;
                which = newWhich;
                top = newTop;
                bottom = newBottom;
            }
        }
    }

    /** Who does a ROUND's STEPS, and what came of them the last time. */
    private static final class Player {
        static final int MOST_DONE = 300;
        /** Far above all ends that so many STEPS can come to. */
        static final int MOST_MOVES = 1000000;

        boolean hasRun;
        int steps;
        int missed;
        int flew;
        int failed;
        int points;
        int left;
        private int drawn;
        private int beat;
        private int puff;
        /** How often the loop at a place is still to be done. */
        private final int[] toDo = new int[Round.MOST_OPS];
        private final Shot shot = new Shot();

        private void begin(int seed) {
            hasRun = true;
            steps = 0;
            missed = 0;
            flew = 0;
            failed = 0;
            points = 0;
            left = 0;
            drawn = seed;
            beat = 0;
            puff = 20;
            shot.pea = 0;
            shot.x = 0;
            shot.y = 0;
        }

        void run(Round round, Tent tent, Tally tally, int seed) {
            begin(seed);
            int at = 0;
            for (int i = 0; i < MOST_MOVES && at >= 0 && at < round.ops; i++) {
                int op = round.op[at];
                if (op == END) {
                    at = behindEnd(round, at);
                    continue;
                }
                if (steps >= MOST_DONE) {
                    left = 1;
                    return;
                }
                steps++;
                if (op == STOP) {
                    return;
                }
                if (op == WHEN && !holds(round, at, tally)) {
                    at = round.mate[at] + 1;
                    continue;
                }
                doStep(round, at, tent, tally);
                at++;
            }
        }

        /** At the end of a loop that is to be done again its first STEP comes next. */
        private int behindEnd(Round round, int at) {
            int begin = round.mate[at];
            if (within(begin, 0, at - 1) && round.op[begin] == LOOP) {
                toDo[begin]--;
                if (toDo[begin] > 0) {
                    return begin + 1;
                }
            }
            return at + 1;
        }

        private static boolean holds(Round round, int at, Tally tally) {
            int tested = round.first[at];
            int value = 0;
            if (tested == Round.TEST_HOLES) {
                value = tally.holes;
            } else if (tested == Round.TEST_SPIT) {
                value = tally.spit;
            } else if (within(tested, 0, MOST_SHOOTERS - 1)) {
                value = tally.scores[tested];
            }
            switch (round.second[at]) {
                case '<':
                    return value < round.third[at];
                case '>':
                    return value > round.third[at];
                default:
                    return value == round.third[at];
            }
        }

        private void doStep(Round round, int at, Tent tent, Tally tally) {
            int number = round.first[at];
            switch (round.op[at]) {
                case LOAD:
                    shot.pea = number;
                    break;
                case AIM:
                    shot.x = number;
                    shot.y = round.second[at];
                    break;
                case PUFF:
                    puff = number;
                    break;
                case BEAT:
                    beat = number;
                    break;
                case SHOOT:
                    shootOnce(number, tent, tally);
                    break;
                case WIPE:
                    tally.spit = 0;
                    break;
                case NEXT:
                    loadNext(tent);
                    break;
                case LOOP:
                    toDo[at] = number;
                    break;
                default:
                    break;
            }
        }

        private void loadNext(Tent tent) {
            if (tent.peas == 0) {
                missed++;
                return;
            }
            shot.pea = shot.pea + 1 < tent.peas ? shot.pea + 1 : 0;
        }

        private void shootOnce(int shooter, Tent tent, Tally tally) {
            boolean both = within(shooter, 0, tent.shooters - 1) && within(shot.pea, 0, tent.peas - 1);
            if (!both || tent.fitOf(shot.pea) < 0 || tally.holes >= MOST_HOLES) {
                missed++;
                return;
            }
            shot.shooter = shooter;
            shot.puff = Math.min(puff, tent.hardest[shooter]);
            shot.spit = tally.spit;
            shot.inches = tent.inches;
            shot.reckon(tent);
            if (shot.fate != FLIES) {
                failed++;
                return;
            }
            int n = tent.shakeOn(shooter, beat);
            int handX = drawHand(n);
            int handY = drawHand(n);
            int turn = shot.off > 0 && draw(2) == 1 ? -1 : 1;
            flew++;
            points += tally.strike(tent, shot, shot.strikeX(tent, turn) + handX, shot.strikeY(tent) + handY);
        }

        private int drawHand(int n) {
            return n == 0 ? 0 : draw(2 * n + 1) - n;
        }

        private int draw(int n) {
            drawn = (drawn * 2851 + 11027) % 65536;
            return n > 0 ? drawn / 8 % n : 0;
        }
    }
}
