import java.util.ArrayList;
import java.util.List;

/** The edges that the Terms behind "==== 4." name: ROUNDS, their STEPS, FAULTS and draws, MARKS, FRACTIONS. */
public final class TermsRoundsTest {
    private static final String ROUNDS = "==== 4.";
    /** TIME 1 to 4 with a PUFF of 20 and more, DROP 0: it STRIKES where it is aimed at, as long as SPIT is below 8. */
    private static final String STRAIGHT = "tube 48 bore 3; far 4; ring 2 worth 3; ring 1 worth 7;"
        + "pea fit size 3 weight 1; pea big size 4 weight 1; pea wetty size 3 weight 1 wet;"
        + "shooter shaky puff 40 shake 6; shooter still puff 40 shake 0; shooter weak puff 1 shake 0;";
    /** 298 STEPS that do nothing. */
    private static final String LONG = "loop 3; loop 98; wipe; end; end; ";

    private static PeaTube withRound(String tent, String round) {
        PeaTube x = Check.withTent(tent);
        Check.due("round is taken: " + round, Check.round(x, round) >= 0, true);
        return x;
    }

    private static PeaTube played(String tent, String round, int seed, int steps) {
        PeaTube x = withRound(tent, round);
        Check.yes(x, "play(" + seed + ") of " + round, x.play(seed), steps);
        return x;
    }

    /** MISSED, flew, DROPPED or STUCK, POINTS, whether a STEP was left. */
    private static void told(PeaTube x, int... due) {
        for (int what = 0; what < 5; what++) {
            Check.yes(x, "played(" + what + ")", x.played(what), due[what]);
        }
    }

    private static void hole(PeaTube x, int k, int dueX, int dueY) {
        Check.yes(x, "x of hole " + k, x.hole(k, 0), dueX);
        Check.yes(x, "y of hole " + k, x.hole(k, 1), dueY);
    }

    private static void taken(String text, int steps) {
        PeaTube x = Check.withTent(STRAIGHT);
        Check.yes(x, "round " + text, Check.round(x, text), steps);
    }

    private static void fault(String text, int kind, int place) {
        PeaTube x = Check.withTent(STRAIGHT);
        Check.no(x, "round " + text, Check.round(x, text), 10);
        Check.due("fault(0) of " + text, x.fault(0), kind);
        Check.due("fault(1) of " + text, x.fault(1), place);
    }

    /** A STEP by its TOKENS: it is taken whole; cut behind each, or with another sign in place of each, it has FAULT 2 there. */
    private static void step(String whole, String rest, int steps) {
        taken(whole + rest, steps);
        String[] tokens = whole.split(" ");
        String ahead = "";
        for (int i = 0; i < tokens.length; i++) {
            fault(ahead + (tokens[i].matches("[<=>]") ? ";" : "<") + rest, 2, ahead.length());
            if (i > 0) {
                fault(ahead.trim(), 2, ahead.length() - 1);
            }
            ahead += tokens[i] + " ";
        }
    }

    /** A NUMBER behind the text's start: the least and the most are taken, one less and one more has FAULT 4. */
    private static void numberWithin(String start, int least, int most, String rest, int steps) {
        taken(start + least + rest, steps);
        taken(start + most + rest, steps);
        if (least > 0) {
            fault(start + (least - 1) + rest, 4, start.length());
        }
        fault(start + (most + 1) + rest, 4, start.length());
        fault(start + 9999 + rest, 4, start.length());
    }

    @Sentence(in = ROUNDS, says = "A ROUND is a TEXT of at most 300 bytes, of such TOKENS (none at first).")
    private static void roundOf300BytesNoneAtFirst() {
        PeaTube x = new PeaTube();
        Check.no(x, "none at first", x.play(0), 8);
        Check.feed(x, " ".repeat(295) + "wipe;wipe;");
        Check.no(x, "round(301)", x.round(301), 5);
        Check.yes(x, "round(300)", x.round(300), 1);
        Check.yes(x, "play", x.play(0), 1);
        fault(" ".repeat(299) + "!", 1, 299);
        fault("wipe;\twipe;", 1, 5);
        fault("beat 00001;", 1, 5);
        fault("Wipe;", 1, 0);
        taken("\nwipe\n;\n \n", 1);
    }

    @Sentence(in = ROUNDS, says = "ROUND: {STEP}.")
    private static void roundOfNoStep() {
        taken("", 0);
        taken("  \n ", 0);
        fault(";", 2, 0);
        fault("wipe;;", 2, 5);
        fault("tube 24 bore 8;", 2, 0);
        fault("pea a size 1 weight 1;", 2, 0);
        fault("score;", 2, 0);
        played(STRAIGHT, "", 0, 0);
    }

    @Sentence(in = ROUNDS, says = "STEP: load NAME ;")
    private static void stepLoad() {
        step("load fit ;", "", 1);
        fault("load;", 2, 4);
        fault("load next;", 2, 5);
        fault("load 1;", 2, 5);
        fault("load ninelette;", 2, 5);
        fault("load fit fit;", 2, 9);
    }

    @Sentence(in = ROUNDS, says = "or aim NUMBER NUMBER [left] [low] ;")
    private static void stepAimPerhapsLeftPerhapsLow() {
        step("aim 1 2 ;", "", 1);
        step("aim 1 2 left ;", "", 1);
        step("aim 1 2 low ;", "", 1);
        step("aim 1 2 left low ;", "", 1);
        fault("aim 1;", 2, 5);
        fault("aim 1 left 2;", 2, 6);
        fault("aim 1 2 low left;", 2, 12);
        fault("aim 1 2 left left;", 2, 13);
        PeaTube x = played(STRAIGHT, "aim 1 2; shoot still; aim 1 2 left; shoot still; aim 1 2 low; shoot still; aim 1 2 left low; shoot still;", 0, 8);
        hole(x, 0, 1, 2);
        hole(x, 1, -1, 2);
        hole(x, 2, 1, -2);
        hole(x, 3, -1, -2);
    }

    @Sentence(in = ROUNDS, says = "or puff NUMBER ;")
    private static void stepPuff() {
        step("puff 1 ;", "", 1);
        fault("puff 1 1;", 2, 7);
    }

    @Sentence(in = ROUNDS, says = "or beat NUMBER ;")
    private static void stepBeat() {
        step("beat 1 ;", "", 1);
        fault("beat 1 1;", 2, 7);
    }

    @Sentence(in = ROUNDS, says = "or shoot NAME ;")
    private static void stepShoot() {
        step("shoot still ;", "", 1);
        fault("shoot;", 2, 5);
        fault("shoot wipe;", 2, 6);
        fault("shoot ninelette;", 2, 6);
    }

    @Sentence(in = ROUNDS, says = "or wipe ;")
    private static void stepWipe() {
        step("wipe ;", "", 1);
        fault("wipe 1;", 2, 5);
    }

    @Sentence(in = ROUNDS, says = "or next ;")
    private static void stepNext() {
        step("next ;", "", 1);
        fault("next fit;", 2, 5);
    }

    @Sentence(in = ROUNDS, says = "or when TEST ; {STEP} end ;")
    private static void stepWhen() {
        step("when spit < 1 ;", " end;", 1);
        taken("when spit < 1; end;", 1);
        taken("when spit < 1; wipe; next; end;", 3);
        played(STRAIGHT, "when spit < 1; wipe; next; end; wipe; next;", 0, 5);
        played(STRAIGHT, "when spit > 0; wipe; next; end; wipe; next;", 0, 3);
        played(STRAIGHT, "when spit > 0; when spit = 0; wipe; end; end; when spit = 0; when spit > 0; wipe; end; wipe; end; wipe;", 0, 5);
        fault("when spit < 1; wipe;", 2, 20);
        fault("when spit < 1; end", 2, 18);
        fault("when spit < 1; end end;", 2, 19);
        fault("when ; end;", 2, 5);
    }

    @Sentence(in = ROUNDS, says = "or loop NUMBER ; {STEP} end ;")
    private static void stepLoop() {
        step("loop 2 ;", " end;", 1);
        taken("loop 2; end;", 1);
        taken("loop 2; wipe; next; end;", 3);
        fault("loop 2 wipe; end;", 2, 7);
        fault("loop 2; wipe; end 2;", 2, 18);
        fault("loop 2;", 2, 7);
    }

    @Sentence(in = ROUNDS, says = "or stop ;")
    private static void stepStop() {
        step("stop ;", "", 1);
        fault("stop 1;", 2, 5);
    }

    @Sentence(in = ROUNDS, says = "TEST: score NAME COMPARES NUMBER, or holes COMPARES NUMBER, or spit COMPARES NUMBER.")
    private static void tests() {
        step("when score still < 1 ;", " end;", 1);
        step("when holes = 1 ;", " end;", 1);
        step("when spit > 1 ;", " end;", 1);
        // behind these SHOTS the scores are 7, 3, 0, the SPIT is 1, there are 3 HOLES
        String shots = "beat 3; shoot shaky; aim 2 0; shoot still; wipe; aim 9 9; shoot weak; ";
        String[] hold = {"score shaky = 7", "score still = 3", "score weak = 0", "holes = 3", "spit = 1"};
        for (String test : hold) {
            told(played(STRAIGHT, shots + "when " + test + "; shoot weak; end;", 0, 9), 0, 4, 0, 10, 0);
        }
        fault("when score < 1; end;", 2, 11);
        fault("when holes still < 1; end;", 2, 11);
        fault("when puff < 1; end;", 2, 5);
        fault("when still < 1; end;", 2, 5);
        fault("when score ninelette < 1; end;", 2, 11);
    }

    @Sentence(in = ROUNDS, says = "COMPARES: < or > or =")
    private static void compares() {
        String[] signs = {"<", ">", "="};
        for (String sign : signs) {
            for (int than = 6; than <= 8; than++) {
                boolean holds = sign.equals("<") ? 7 < than : sign.equals(">") ? 7 > than : than == 7;
                // behind seven SHOTS of 7 POINTS each
                String[] tests = {"holes " + sign + than, "spit " + sign + than, "score still " + sign + (than + 42)};
                for (String test : tests) {
                    PeaTube x = played(STRAIGHT, "loop 7; shoot still; end; when " + test + "; next; end;", 0, holds ? 10 : 9);
                    told(x, 0, 7, 0, 49, 0);
                }
            }
        }
        fault("when spit ; 1; end;", 2, 10);
        fault("when spit <= 1; end;", 2, 11);
        fault("when spit 1; end;", 2, 10);
    }

    @Sentence(in = ROUNDS, says = "FAULTS: 1, 2 as above (an end without a beginning; the text's end ahead of an end: 2).")
    private static void faults1And2() {
        fault("wipe; !", 1, 6);
        fault("wipe; go", 2, 6);
        fault("wipe", 2, 4);
        fault("end;", 2, 0);
        fault("wipe; end;", 2, 6);
        fault("loop 1; end; end;", 2, 13);
        fault("when spit=1; loop 2; wipe; end;", 2, 31);
        fault("loop 2; wipe;  \n", 2, 16);
        fault("loop 2", 2, 6);
    }

    @Sentence(in = ROUNDS, says = "3 a NAME that is no such one.")
    private static void fault3NoSuchOne() {
        fault("load nobody;", 3, 5);
        fault("load still;", 3, 5);
        fault("shoot nobody;", 3, 6);
        fault("shoot fit;", 3, 6);
        fault("when score fit < 1; end;", 3, 11);
        fault("when score nobody < 1; end;", 3, 11);
        fault("load fi;", 3, 5);
        fault("load fits;", 3, 5);
        PeaTube x = Check.withTent("shooter old puff 1 shake 0; pea older size 1 weight 1;");
        Check.tent(x, STRAIGHT);
        Check.no(x, "one of the tent ahead", Check.round(x, "shoot old;"), 10);
        Check.due("fault(0)", x.fault(0), 3);
        Check.no(x, "one of the tent ahead", Check.round(x, "load older;"), 10);
        Check.due("fault(0)", x.fault(0), 3);
        PeaTube y = new PeaTube();
        Check.no(y, "none in a tent without any", Check.round(y, "load a;"), 10);
        Check.due("fault(0)", y.fault(0), 3);
    }

    @Sentence(in = ROUNDS, says = "4 a NUMBER that can't be.")
    private static void fault4ANumberThatCannotBe() {
        fault("aim 61 1;", 4, 4);
        fault("puff 0;", 4, 5);
        fault("beat 4;", 4, 5);
        fault("loop 0; end;", 4, 5);
        fault("when score still < 1000; end;", 4, 19);
        fault("puff 41 !", 4, 5);
    }

    @Sentence(in = ROUNDS, says = "6 a 31st STEP (at its WORD; end is none).")
    private static void fault6The31stStep() {
        String thirty = "wipe;".repeat(30);
        taken(thirty, 30);
        String[] words = {"load", "aim", "puff", "beat", "shoot", "wipe", "next", "when", "loop", "stop"};
        for (String word : words) {
            fault(thirty + word, 6, 150);
        }
        taken("loop 2;end;".repeat(15) + "wipe;".repeat(15), 30);
        fault("loop 2;end;".repeat(15) + "wipe;".repeat(16), 6, 15 * 11 + 15 * 5);
        taken("loop1;end;".repeat(30), 30);
        played(STRAIGHT, "loop2;end;".repeat(30), 0, 30);
        taken("loop 2;" + "wipe;".repeat(29) + "end;", 30);
        fault(thirty + "end;", 2, 150);
        fault(thirty + "left", 2, 150);
        // of one TOKEN the least kind: 6 ahead of 7
        fault("loop 1;loop 1;loop 1;" + "wipe;".repeat(27) + "loop 1;", 6, 21 + 135);
    }

    @Sentence(in = ROUNDS, says = "7 a when, loop within three others (at its WORD).")
    private static void fault7WithinThreeOthers() {
        taken("loop 1; when spit=0; loop 1; wipe; end; end; end;", 4);
        fault("loop 1; when spit=0; loop 1; when", 7, 29);
        fault("loop 1; when spit=0; loop 1; loop", 7, 29);
        fault("when spit=0; when spit=0; when spit=0; loop 1;", 7, 39);
        taken("loop 1; loop 1; loop 1; end; loop 1; end; end; loop 1; end; end;", 5);
        fault("loop 1; loop 1; loop 1; end; loop 1; loop 1;", 7, 37);
    }

    @Sentence(in = ROUNDS, says = "At first PEA 0 is loaded, the aim is 0, 0, the puff 20, the beat 0.")
    private static void atFirst() {
        String tent = "tube 12 bore 3; far 4; pea p size 3 weight 1; pea q size 3 weight 1; shooter s puff 40 shake 6; shooter t puff 40 shake 0;";
        PeaTube x = played(tent, "shoot t; wipe; puff 5; aim 9 9; beat 3; next; shoot t;", 0, 7);
        // PACE 240, TIME 4: DROP 0; PACE 60, TIME 16: DROP 4
        hole(x, 0, 0, 0);
        hole(x, 1, 9, 5);
        Check.yes(x, "pea", x.hole(1, 3), 1);
        x.wipe();
        Check.yes(x, "all is so again", x.play(0), 7);
        hole(x, 2, 0, 0);
        Check.yes(x, "pea 0", x.hole(2, 3), 0);
        PeaTube y = played(tent, "shoot s; wipe; beat 3;", 0, 3);
        // on BEAT 0 by 13: 1378 and 7157
        hole(y, 0, 1378 % 13 - 6, 7157 % 13 - 6);
        Check.yes(y, "the beat is 0 again", y.play(0), 3);
        hole(y, 1, 1378 % 13 - 6, 7157 % 13 - 6);
        // PACE 24: TIME 40, DROP 25; with PUFF 19 it DROPS, with PUFF 21 PACE 25: TIME 39, DROP 23
        PeaTube z = played("tube 12 bore 3; far 4; pea p size 3 weight 10; shooter s puff 40 shake 0;", "shoot s; wipe; puff 21; shoot s; wipe; puff 19; shoot s;", 0, 7);
        told(z, 0, 2, 1, 0, 0);
        hole(z, 0, 0, -25);
        hole(z, 1, 0, -23);
    }

    @Sentence(in = ROUNDS, says = "aim (0 to 60 each)")
    private static void aim0To60() {
        numberWithin("aim ", 0, 60, " 0;", 1);
        numberWithin("aim 0 ", 0, 60, " left low;", 1);
        PeaTube x = played(STRAIGHT, "aim 60 60; shoot still; aim 60 60 left low; shoot still; aim 0 0 left low; shoot still;", 0, 6);
        hole(x, 0, 60, 60);
        hole(x, 1, -60, -60);
        hole(x, 2, 0, 0);
    }

    @Sentence(in = ROUNDS, says = "puff (1 to 40; no harder than who shoots can)")
    private static void puff1To40NoHarderThanCanBe() {
        numberWithin("puff ", 1, 40, ";", 1);
        // weak: PACE 48, TIME 20, DROP 6, whatever is told
        PeaTube x = played(STRAIGHT, "shoot weak; wipe; puff 40; shoot weak; wipe; puff 1; shoot weak; wipe; shoot still; wipe; puff 40; shoot still;", 0, 12);
        hole(x, 0, 0, -6);
        hole(x, 1, 0, -6);
        hole(x, 2, 0, -6);
        hole(x, 3, 0, -6);
        hole(x, 4, 0, 0);
    }

    @Sentence(in = ROUNDS, says = "beat (0 to 3)")
    private static void beat0To3() {
        numberWithin("beat ", 0, 3, ";", 1);
        PeaTube x = played(STRAIGHT, "beat 1; shoot shaky; wipe; beat 2; shoot shaky; wipe; beat 3; shoot shaky; wipe; beat 0; shoot shaky;", 5, 11);
        int[] hands = {3, 1, 0, 6};
        int s = 5;
        for (int k = 0; k < 4; k++) {
            int[] at = {0, 0};
            for (int i = 0; i < 2 && hands[k] > 0; i++) {
                s = next(s);
                at[i] = s / 8 % (2 * hands[k] + 1) - hands[k];
            }
            hole(x, k, at[0], at[1]);
        }
    }

    private static int next(int s) {
        return (int) ((s * 2851L + 11027L) % 65536L);
    }

    @Sentence(in = ROUNDS, says = "shoot: a SHOT by draws: the HAND's x by 2 n and 1, less n, its y likewise (not drawn where n is 0)")
    private static void theHandIsDrawnXThenY() {
        for (int seed : new int[] {0, 1, 4242, 9999}) {
            PeaTube x = played(STRAIGHT, "shoot still; wipe; loop 20; shoot shaky; wipe; shoot still; wipe; end;", seed, 83);
            hole(x, 0, 0, 0);
            int s = seed;
            for (int k = 0; k < 20; k++) {
                int first = next(s);
                s = next(first);
                hole(x, 1 + 2 * k, first / 8 % 13 - 6, s / 8 % 13 - 6);
                hole(x, 2 + 2 * k, 0, 0);
            }
        }
    }

    @Sentence(in = ROUNDS, says = "then the turn by 2 (0 right), if OFF is above 0")
    private static void theTurnIsDrawnIfOffIsAbove0() {
        // with PUFF 5 TIME 16: OFF 1, DROP 4; with PUFF 40 TIME 2: OFF 0
        PeaTube x = played("tube 12 bore 3; far 4; pea p size 3 weight 1 crooked 1; shooter s puff 40 shake 0; shooter t puff 40 shake 1;",
            "loop 9; puff 5; shoot s; wipe; puff 40; shoot s; wipe; puff 5; shoot t; wipe; end;", 77, 82);
        int s = 77;
        int lefts = 0;
        for (int k = 0; k < 27; k += 3) {
            s = next(s);
            hole(x, k, s / 8 % 2 == 0 ? 1 : -1, -4);
            lefts += s / 8 % 2;
            hole(x, k + 1, 0, 0);
            int handX = next(s);
            int handY = next(handX);
            s = next(handY);
            hole(x, k + 2, handX / 8 % 3 - 1 + (s / 8 % 2 == 0 ? 1 : -1), handY / 8 % 3 - 1 - 4);
        }
        Check.due("both turns", lefts > 0 && lefts < 9, true);
    }

    @Sentence(in = ROUNDS, says = "its POINTS are that SHOOTER's")
    private static void thePointsAreThatShooters() {
        PeaTube x = played(STRAIGHT, "shoot still; aim 2 0; shoot still; aim 0 6; shoot weak; aim 9 9; shoot still;", 0, 7);
        // weak with SPIT 2 has PACE 16: DROPS
        told(x, 0, 3, 1, 10, 0);
        Check.yes(x, "still", x.shooter(1, 4), 10);
        Check.yes(x, "weak", x.shooter(2, 4), 0);
        Check.yes(x, "shaky", x.shooter(0, 4), 0);
    }

    @Sentence(in = ROUNDS, says = "wipe; next: the next PEA (behind the last one the first)")
    private static void nextBehindTheLastIsTheFirst() {
        PeaTube x = played(STRAIGHT, "load wetty; shoot still; next; shoot still; next; next; shoot still; next; shoot still;", 0, 9);
        int[] peas = {2, 0, 2, 0};
        for (int k = 0; k < 4; k++) {
            Check.yes(x, "pea of hole " + k, x.hole(k, 3), peas[k]);
        }
        Check.due("wiped", played(STRAIGHT, "shoot still; wipe;", 0, 2).many(7), 0);
        PeaTube y = played("pea p size 3 weight 1; shooter s puff 40 shake 0;", "next; shoot s; next; next; shoot s;", 0, 5);
        Check.yes(y, "one alone is next to itself", y.hole(1, 3), 0);
        told(y, 0, 2, 0, 0, 0);
    }

    @Sentence(in = ROUNDS, says = "What can't be is MISSED: a PEA that does not go in, no PEAS (next, too), 60 HOLES.")
    private static void whatCannotBeIsMissed() {
        told(played("shooter s puff 9 shake 0;", "shoot s; next; shoot s; wipe; next;", 0, 5), 4, 0, 0, 0, 0);
        PeaTube x = played(STRAIGHT, "load big; shoot still; shoot shaky; next; shoot still;", 0, 5);
        told(x, 2, 1, 0, 7, 0);
        Check.yes(x, "what is missed makes no spit", x.many(7), 1);
        PeaTube y = played(STRAIGHT, "loop 60; shoot still; wipe; end; load wetty; shoot still; puff 1; shoot weak; next; shoot still;", 0, 127);
        told(y, 3, 60, 0, 420, 0);
        Check.yes(y, "holes", y.many(8), 60);
        Check.yes(y, "spit", y.many(7), 0);
        // what has missed the wall is no HOLE, so that the 60 may come later
        PeaTube z = played("tube 48 bore 3; far 20; wind 9; ring 60 worth 2; pea p size 3 weight 14; shooter s puff 40 shake 0;",
            "puff 40; aim 60 60; loop 3; shoot s; wipe; end; aim 59 60; loop 61; shoot s; wipe; end;", 0, 133);
        told(z, 1, 63, 0, 0, 0);
    }

    @Sentence(in = ROUNDS, says = "What STICKS or DROPS has no draws.")
    private static void whatSticksOrDropsHasNoDraws() {
        PeaTube x = played("tube 48 bore 3; far 4; pea p size 3 weight 1; pea lead size 3 weight 20; pea wetty size 3 weight 1 wet; pea fat size 4 weight 1;"
            + "shooter s puff 40 shake 6; shooter t puff 40 shake 0;",
            "load lead; puff 1; shoot s; load wetty; puff 40; loop 4; shoot t; end; shoot s; load fat; shoot s; load p; shoot s;", 0, 15);
        told(x, 1, 4, 3, 0, 0);
        hole(x, 3, 1378 % 13 - 6, 7157 % 13 - 6);
    }

    @Sentence(in = ROUNDS, says = "when score: 0 to 999; holes 0 to 60; spit 0 to 20.")
    private static void whenWithin() {
        numberWithin("when score still < ", 0, 999, "; end;", 1);
        numberWithin("when holes < ", 0, 60, "; end;", 1);
        numberWithin("when spit < ", 0, 20, "; end;", 1);
        PeaTube x = played(STRAIGHT, "when score still = 0; when spit = 0; loop 60; shoot still; wipe; end; end; end;"
            + "when holes = 60; next; end; when holes < 60; next; end; when holes > 60; next; end;", 0, 3 + 120 + 2 + 1 + 1);
        told(x, 0, 60, 0, 420, 0);
    }

    @Sentence(in = ROUNDS, says = "loop n (1 to 99): as often.")
    private static void loop1To99() {
        numberWithin("loop ", 1, 99, "; end;", 1);
        played(STRAIGHT, "loop 1; wipe; end;", 0, 2);
        played(STRAIGHT, "loop 2; wipe; end; wipe;", 0, 4);
        played(STRAIGHT, "loop 99; wipe; end;", 0, 100);
        played(STRAIGHT, "loop 99; end;", 0, 1);
        played(STRAIGHT, "loop 3; loop 4; loop 5; wipe; end; end; end;", 0, 1 + 3 + 12 + 60);
    }

    @Sentence(in = ROUNDS, says = "At most 300 STEPS (when, loop count as one each time they are come to from ahead; end does not).")
    private static void atMost300Steps() {
        told(played(STRAIGHT, LONG, 0, 298), 0, 0, 0, 0, 0);
        told(played(STRAIGHT, LONG + "next; next;", 0, 300), 0, 0, 0, 0, 0);
        PeaTube x = played(STRAIGHT, LONG + "next; next; shoot still;", 0, 300);
        told(x, 0, 0, 0, 0, 1);
        Check.yes(x, "the 301st is not done", x.many(8), 0);
        told(played(STRAIGHT, LONG + "wipe; shoot still;", 0, 300), 0, 1, 0, 7, 0);
        // a when that does not hold counts, a loop counts once, an end never
        told(played(STRAIGHT, LONG + "when spit > 0; next; end; when spit > 0; next; end;", 0, 300), 0, 0, 0, 0, 0);
        told(played(STRAIGHT, LONG + "when spit = 0; next; end;", 0, 300), 0, 0, 0, 0, 0);
        told(played(STRAIGHT, LONG + "next; loop 99; end;", 0, 300), 0, 0, 0, 0, 0);
        told(played(STRAIGHT, LONG + "loop 1; next; end;", 0, 300), 0, 0, 0, 0, 0);
        told(played(STRAIGHT, LONG + "loop 2; next; end;", 0, 300), 0, 0, 0, 0, 1);
        told(played(STRAIGHT, LONG + "next; next; when spit > 0; next; end;", 0, 300), 0, 0, 0, 0, 1);
        told(played(STRAIGHT, LONG + "next; next; loop 2; end;", 0, 300), 0, 0, 0, 0, 1);
        told(played(STRAIGHT, LONG + "next; next; stop;", 0, 300), 0, 0, 0, 0, 1);
        told(played(STRAIGHT, LONG + "next; stop; next;", 0, 300), 0, 0, 0, 0, 0);
        told(played(STRAIGHT, LONG + "stop; next;", 0, 299), 0, 0, 0, 0, 0);
        told(played(STRAIGHT, "loop 99; loop 99; loop 99; end; end; end;", 0, 300), 0, 0, 0, 0, 1);
    }

    @Sentence(in = ROUNDS, says = "SHOT by a seed (0 to 9,999): all is as it becomes by it, and stays so.")
    private static void shotByASeed0To9999() {
        PeaTube x = withRound(STRAIGHT, "shoot still; stop;");
        Check.no(x, "seed -1", x.play(-1), 5);
        Check.no(x, "seed 10000", x.play(10000), 5);
        Check.yes(x, "seed 0", x.play(0), 2);
        Check.yes(x, "seed 9999", x.play(9999), 2);
        Check.yes(x, "holes stay", x.many(8), 2);
        Check.yes(x, "spit stays", x.many(7), 2);
        Check.yes(x, "scores stay", x.shooter(1, 4), 14);
        Check.yes(x, "the round stays", x.play(1), 2);
        told(x, 0, 1, 0, 7, 0);
    }

    @Sentence(in = ROUNDS, says = "Draws: s, at first the seed, becomes what is left of s times 2,851 and 11,027 by 65,536; the draw by n is the rest of s by 8, rounded down, by n.")
    private static void drawsWrapAt65536() {
        // of seed 19 it is 65,196; with 20 it comes to 68,047, of which 2,511 are left
        int[][] due = {{18, 62345}, {19, 65196}, {20, 2511}, {9999, (int) ((9999L * 2851 + 11027) % 65536)}};
        for (int[] row : due) {
            Check.due("s behind seed " + row[0], next(row[0]), row[1]);
            PeaTube x = played(STRAIGHT, "shoot shaky;", row[0], 1);
            hole(x, 0, row[1] / 8 % 13 - 6, next(row[1]) / 8 % 13 - 6);
        }
    }

    @Sentence(in = ROUNDS, says = "MARKS, at most 3: the TENT, SPIT, HOLES, scores, the ROUND are kept as they are")
    private static void atMost3Marks() {
        PeaTube x = withRound(STRAIGHT, "wipe; wipe;");
        x.shoot(1, 0, 40, 0, 0, 0, 0, 0);
        for (int i = 1; i <= 3; i++) {
            Check.yes(x, "mark", x.mark(), i);
        }
        Check.no(x, "a fourth", x.mark(), 7);
        Check.yes(x, "another tent", x.tent(0), 0);
        Check.yes(x, "back: the fourth has left no trace", x.back(), 2);
        Check.yes(x, "tent", x.many(5), 3);
        Check.yes(x, "names", Check.round(x, "load wetty; shoot weak; next;"), 3);
        Check.yes(x, "back", x.back(), 1);
        Check.yes(x, "spit", x.many(7), 1);
        Check.yes(x, "holes", x.many(8), 1);
        hole(x, 0, 0, 0);
        Check.yes(x, "by whom", x.hole(0, 2), 1);
        Check.yes(x, "scores", x.shooter(1, 4), 7);
        Check.yes(x, "the round", x.play(0), 2);
    }

    @Sentence(in = ROUNDS, says = "the TENT, SPIT, HOLES, scores, the ROUND are kept as they are")
    private static void allIsKeptAsItIs() {
        String tent = "tube 47 bore 9; far 5; wind 3 left; ring 50 worth 2; ring 40 worth 3; pea p size 9 weight 2 crooked 1; pea q size 8 weight 3 wet;"
            + "shooter a puff 39 shake 1 lean 3 4 low; shooter b puff 38 shake 2 lean 5 6;";
        String other = "tube 12 bore 3; far 4; wind 9; ring 9 worth 20; pea p size 3 weight 1 wet; pea q size 2 weight 8 crooked 4;"
            + "shooter a puff 9 shake 6 lean 1 1; shooter b puff 8 shake 5 lean 2 2 low;";
        String round = "aim 1 2 left; shoot a; next; loop 2; when holes < 9; shoot b; end; end;";
        List<Long> due = all(shot(tent, round));
        PeaTube x = shot(tent, round);
        x.mark();
        for (int i = 0; i < 3; i++) {
            Check.due("another tent is taken", Check.tent(x, other), 2);
            Check.round(x, "aim 7 7 low; load q; when score b > 3; wipe; end; loop 9; shoot b; wipe; end; stop; wipe; wipe;");
            x.play(9);
            x.wipe();
            Check.due("another hole in place of the first", x.shoot(1, 0, 8, 9, 9, 1, 1, 1) >= 0, true);
            Check.due("it is one", x.many(8) > 0, true);
            if (i < 2) {
                x.mark();
            }
        }
        x.back();
        x.back();
        Check.due("what is kept of the tent between", x.many(2), 4);
        Check.yes(x, "back", x.back(), 0);
        Check.due("all is as it was: " + due, all(x).equals(due), true);
    }

    private static PeaTube shot(String tent, String round) {
        PeaTube x = withRound(tent, round);
        x.shoot(0, 1, 39, 5, -6, 1, 2, 3);
        x.shoot(1, 0, 38, -7, 8, -1, -3, 4);
        return x;
    }

    private static List<Long> all(PeaTube x) {
        List<Long> all = new ArrayList<>();
        for (int again = 0; again < 2; again++) {
            for (int what = 0; what < 9; what++) {
                all.add((long) x.many(what));
                for (int k = 0; k < 7; k++) {
                    all.add((long) x.ring(k, what));
                    all.add((long) x.pea(k, what));
                    all.add((long) x.shooter(k, what));
                    all.add((long) x.hole(k, what));
                }
            }
            all.add((long) x.play(4321));
        }
        return all;
    }

    @Sentence(in = ROUNDS, says = "all is taken back to the latest MARK, which is gone then.")
    private static void theLatestMarkIsGone() {
        PeaTube x = Check.withTent("far 4;");
        Check.no(x, "no mark yet", x.back(), 8);
        x.mark();
        Check.tent(x, "far 5;");
        x.mark();
        Check.tent(x, "far 6;");
        Check.yes(x, "back", x.back(), 1);
        Check.yes(x, "far", x.many(2), 5);
        Check.yes(x, "back", x.back(), 0);
        Check.yes(x, "far", x.many(2), 4);
        Check.no(x, "all are gone", x.back(), 8);
        Check.yes(x, "far", x.many(2), 4);
        Check.yes(x, "a mark again", x.mark(), 1);
    }

    @Sentence(in = ROUNDS, says = "FRACTIONS are told by top() and bottom() without a common divisor, the bottom above 0; 0 is 0 by 1.")
    private static void fractionsWithoutACommonDivisor() {
        PeaTube x = Check.withTent(STRAIGHT);
        for (int k = 0; k < 6; k++) {
            x.shoot(1, 0, 40, k < 4 ? -1 : 0, k < 2 ? 9 : 0, 0, 0, 0);
        }
        Check.yes(x, "lean", x.lean(-1, -1, 0));
        Check.fraction(x, "-4 by 6", -2, 3);
        Check.yes(x, "lean", x.lean(-1, -1, 1));
        Check.fraction(x, "18 by 6", 3, 1);
        x.wipe();
        Check.yes(x, "mean", x.mean(0, 0, 40, 2, 9, 9));
        Check.fraction(x, "0 by 18", 0, 1);
        Check.yes(x, "mean", x.mean(0, 0, 40, 2, 0, 0));
        Check.fraction(x, "47 by 9", 47, 9);
        Check.yes(x, "turns", x.turns(0, 0, 0, 0, 5, 1));
        Check.due("without a common divisor", gcd(x.top(), x.bottom()), 1);
        Check.due("the bottom is above 0", x.bottom() > 0, true);
    }

    private static long gcd(long a, long b) {
        return java.math.BigInteger.valueOf(a).gcd(java.math.BigInteger.valueOf(b)).longValue();
    }

    public static void main(String[] args) throws Exception {
        Sentences.test(TermsRoundsTest.class);
    }
}
