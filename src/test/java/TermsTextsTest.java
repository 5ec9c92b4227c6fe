/** The edges that "What it is" and the Terms ahead of "==== 2." name: TRAYS, a TENT's TOKENS and PARTS, FAULTS. */
public final class TermsTextsTest {
    private static final String WORDS = "tube, bore, far, wind, left, ring, worth, pea, size, weight, crooked, wet, shooter, puff, shake, "
        + "lean, low, load, aim, beat, shoot, wipe, next, when, score, holes, spit, loop, end, stop";

    private static void taken(String text) {
        PeaTube x = new PeaTube();
        Check.due("a tent: " + text, Check.tent(x, text) >= 0, true);
        Check.due("status of " + text, x.status(), 0);
    }

    /** The NUMBER behind the text's start: the least and the most are taken, one less and one more has FAULT 4. */
    private static void numberWithin(String start, int least, int most, String rest) {
        taken(start + least + rest);
        taken(start + most + rest);
        if (least > 0) {
            Check.tentFault(start + (least - 1) + rest, 4, start.length());
        }
        Check.tentFault(start + (most + 1) + rest, 4, start.length());
        Check.tentFault(start + 9999 + rest, 4, start.length());
    }

    /** A PART by its TOKENS: it is taken whole; cut behind each, or with a sign in place of each, it has FAULT 2 there. */
    private static void part(String whole) {
        taken(whole);
        String[] tokens = whole.split(" ");
        String ahead = "";
        for (int i = 0; i < tokens.length; i++) {
            Check.tentFault(ahead + "<", 2, ahead.length());
            if (i > 0) {
                Check.tentFault(ahead.trim(), 2, ahead.length() - 1);
                Check.tentFault(ahead, 2, ahead.length());
            }
            ahead += tokens[i] + " ";
        }
    }

    @Sentence(in = "What it is", says = "An object is used for at most 512 calls after it has been made")
    private static void the512thCallIsAnswered() {
        PeaTube x = new PeaTube();
        for (int tray = 0; tray < 4; tray++) {
            Check.due("tray", x.tray(tray, 3, 60), true);
        }
        for (int call = 5; call <= 511; call++) {
            Check.due("write", x.write(call % 4, call % 60, call), true);
        }
        Check.yes(x, "the 512th call", x.read(511 % 4, 511 % 60), 511);
    }

    @Sentence(in = "Terms", says = "TRAYS, 0 to 3, are MISSING at first")
    private static void trays0To3AreMissingAtFirst() {
        PeaTube x = new PeaTube();
        for (int tray = 0; tray < 4; tray++) {
            Check.no(x, "read of tray " + tray, x.read(tray, 0), 3);
        }
        for (int tray : new int[] {-1, 4, Integer.MIN_VALUE, Integer.MAX_VALUE}) {
            Check.no(x, "read of tray " + tray, x.read(tray, 0), 1);
            Check.no(x, "tray(" + tray + ")", x.tray(tray, 0, 1), 1);
        }
    }

    @Sentence(in = "Terms", says = "or rows of numbers of 8 bits (sort 0), 16 (1), 32 (2) or 64 (3), with sign; what is written is cut to these")
    private static void whatIsWrittenIsCut() {
        PeaTube x = new PeaTube();
        int[] bits = {8, 16, 32, 64};
        for (int sort = 0; sort < 4; sort++) {
            x.tray(sort, sort, 1);
            long most = Long.MAX_VALUE >> (64 - bits[sort]);
            long least = -most - 1;
            written(x, sort, most, most);
            written(x, sort, least, least);
            written(x, sort, most + 1, least);
            written(x, sort, least - 1, most);
            written(x, sort, -1, -1);
            written(x, sort, sort == 3 ? 0 : 1L << bits[sort], 0);
        }
    }

    private static void written(PeaTube x, int tray, long v, long due) {
        Check.yes(x, "write " + v, x.write(tray, 0, v));
        Check.yes(x, "read of sort " + tray, x.read(tray, 0), due);
    }

    @Sentence(in = "Terms", says = "A TENT is a TEXT of at most 900 bytes")
    private static void tentOf900Bytes() {
        PeaTube x = new PeaTube();
        Check.feed(x, " ".repeat(894) + "far 9;");
        Check.no(x, "tent(901)", x.tent(901), 5);
        Check.yes(x, "tent(900)", x.tent(900), 0);
        Check.yes(x, "its last byte counts", x.many(2), 9);
        Check.feed(x, " ".repeat(894) + "far 8;");
        Check.no(x, "tent(899)", x.tent(899), 10);
        Check.due("fault(1)", x.fault(1), 899);
        Check.tentFault(" ".repeat(899) + "!", 1, 899);
    }

    @Sentence(in = "Terms", says = "TOKENS, as long as they go")
    private static void tokensAreAsLongAsTheyGo() {
        taken("far12;wind3left;tube0024bore8;");
        taken("pea a size1weight1crooked1wet;shooter b puff1shake1lean1 1low;");
        Check.tentFault("farfar 12;", 2, 0);
        Check.tentFault("wind 3 lefts;", 2, 7);
        Check.tentFault("far 1234;", 4, 4);
        Check.tentFault("far 12 3;", 2, 7);
        Check.tentFault("pea asize 1 weight 1;", 2, 10);
    }

    @Sentence(in = "Terms", says = "between them blanks (10, 32)")
    private static void blanksAre10And32Alone() {
        taken("\n \n far \n\n 12 \n;  \n");
        taken("far" + (char) 10 + "12" + (char) 32 + ";");
        for (int b : new int[] {0, 9, 11, 12, 13, 31, 33, 127, 128, 160, 255}) {
            Check.tentFault("far" + (char) b + "12;", 1, 3);
            Check.tentFault("far 12;" + (char) b, 1, 7);
        }
        Check.tentFault("fa r 12;", 2, 0);
        Check.tentFault("far 1 2;", 4, 4);
    }

    @Sentence(in = "Terms", says = "WORDS (small letters)")
    private static void wordsAreOfSmallLetters() {
        taken("pea az size 1 weight 1; shooter zyxwvuts puff 1 shake 0; pea abcdefgh size 1 weight 1; pea ijklmnop size 1 weight 1;"
            + "pea qr size 1 weight 1;");
        for (int b : new int[] {'a' - 1, 'z' + 1, 'A', 'Z', '_', 225, 'a' + 128}) {
            Check.tentFault("pea " + (char) b + " size 1 weight 1;", 1, 4);
            Check.tentFault("pea a" + (char) b + " size 1 weight 1;", 1, 5);
        }
    }

    @Sentence(in = "Terms", says = "NUMBERS (1 to 4 digits)")
    private static void numbersHave1To4Digits() {
        for (String number : new String[] {"4", "04", "004", "0004"}) {
            taken("far " + number + ";");
        }
        for (int digit = 0; digit < 10; digit++) {
            taken("far 1" + digit + ";");
        }
        Check.tentFault("far 00004;", 1, 4);
        Check.tentFault("far 4" + (char) ('0' - 1) + ";", 1, 5);
        Check.tentFault("far 5:;", 1, 5);
    }

    @Sentence(in = "Terms", says = "SIGNS ; < > =")
    private static void signsAreFour() {
        taken("far 4;");
        for (char sign : new char[] {'<', '=', '>', ';'}) {
            Check.tentFault("far " + sign, 2, 4);
        }
        for (char sign : new char[] {':', '?', '@', ',', '.', '-', '+', '{', '!'}) {
            Check.tentFault("far " + sign, 1, 4);
        }
    }

    @Sentence(in = "Terms", says = "TENT: {PART}.")
    private static void tentOfNoPartAndOfSeveral() {
        taken("");
        taken("   \n ");
        taken("shooter b puff 1 shake 0;ring 3 worth 1;pea a size 1 weight 1;wind 1;ring 2 worth 2;far 4;tube 12 bore 3;");
        Check.tentFault(";", 2, 0);
        Check.tentFault("far 4;;", 2, 6);
        Check.tentFault("4", 2, 0);
    }

    @Sentence(in = "Terms", says = "({ } any number of times, [ ] perhaps.)")
    private static void anyNumberOfTimesAndPerhaps() {
        taken("");
        taken("far 4;");
        taken("far 4; wind 4; ring 9 worth 1; ring 8 worth 2; ring 7 worth 3;");
        taken("wind 4 left; pea a size 1 weight 1; pea b size 1 weight 1 crooked 1; pea c size 1 weight 1 wet; pea d size 1 weight 1 crooked 1 wet;");
        taken("shooter a puff 1 shake 0; shooter b puff 1 shake 0 lean 1 1; shooter c puff 1 shake 0 lean 1 1 low;");
        Check.tentFault("wind 4 [left];", 1, 7);
        Check.tentFault("{far 4;}", 1, 0);
    }

    @Sentence(in = "Terms", says = "PART: tube NUMBER bore NUMBER ;")
    private static void partTube() {
        part("tube 24 bore 8 ;");
        Check.tentFault("tube 24;", 2, 7);
        Check.tentFault("tube 24 left 8;", 2, 8);
        Check.tentFault("tube bore 8;", 2, 5);
    }

    @Sentence(in = "Terms", says = "or far NUMBER ;")
    private static void partFar() {
        part("far 4 ;");
        Check.tentFault("far far;", 2, 4);
        Check.tentFault("far 4 4;", 2, 6);
    }

    @Sentence(in = "Terms", says = "or wind NUMBER [left] ;")
    private static void partWindPerhapsLeft() {
        part("wind 4 ;");
        part("wind 4 left ;");
        Check.tentFault("wind left 4;", 2, 5);
        Check.tentFault("wind 4 left left;", 2, 12);
        Check.tentFault("wind 4 low;", 2, 7);
    }

    @Sentence(in = "Terms", says = "or ring NUMBER worth NUMBER ;")
    private static void partRing() {
        part("ring 4 worth 1 ;");
        Check.tentFault("ring 4;", 2, 6);
        Check.tentFault("ring 4 1;", 2, 7);
    }

    @Sentence(in = "Terms", says = "or pea NAME size NUMBER weight NUMBER [crooked NUMBER] [wet] ;")
    private static void partPeaPerhapsCrookedPerhapsWet() {
        part("pea a size 1 weight 2 ;");
        part("pea a size 1 weight 2 crooked 3 ;");
        part("pea a size 1 weight 2 wet ;");
        part("pea a size 1 weight 2 crooked 3 wet ;");
        Check.tentFault("pea a size 1 weight 2 wet crooked 3;", 2, 26);
        Check.tentFault("pea a size 1 weight 2 crooked wet;", 2, 30);
        Check.tentFault("pea a size 1 weight 2 wet wet;", 2, 26);
        Check.tentFault("pea a size 1 weight 2 crooked 1 crooked 1;", 2, 32);
        Check.tentFault("pea a weight 2 size 1;", 2, 6);
        Check.tentFault("pea size 1 weight 2;", 2, 4);
    }

    @Sentence(in = "Terms", says = "or shooter NAME puff NUMBER shake NUMBER [lean NUMBER NUMBER [low]] ;")
    private static void partShooterPerhapsLeanPerhapsLow() {
        part("shooter a puff 1 shake 2 ;");
        part("shooter a puff 1 shake 2 lean 3 4 ;");
        part("shooter a puff 1 shake 2 lean 3 4 low ;");
        Check.tentFault("shooter a puff 1 shake 2 low;", 2, 25);
        Check.tentFault("shooter a puff 1 shake 2 lean 3;", 2, 31);
        Check.tentFault("shooter a puff 1 shake 2 lean 3 low;", 2, 32);
        Check.tentFault("shooter a puff 1 shake 2 lean 3 4 left;", 2, 34);
        Check.tentFault("shooter a puff 1 shake 2 lean 3 4 low low;", 2, 38);
        Check.tentFault("shooter a shake 2 puff 1;", 2, 10);
    }

    @Sentence(in = "Terms", says = "NAME: a WORD of 1 to 8 letters")
    private static void nameOf1To8Letters() {
        taken("pea a size 1 weight 1; shooter b puff 1 shake 0;");
        taken("pea abcdefgh size 1 weight 1; shooter zyxwvuts puff 1 shake 0;");
        Check.tentFault("pea abcdefghi size 1 weight 1;", 2, 4);
        Check.tentFault("shooter abcdefghi puff 1 shake 0;", 2, 8);
        Check.tentFault("pea 1 size 1 weight 1;", 2, 4);
        Check.tentFault("pea ; size 1 weight 1;", 2, 4);
        // the names differ at their eighth letter alone, or in length
        taken("pea aaaaaaaa size 1 weight 1; pea aaaaaaab size 1 weight 1; pea aaaaaaa size 1 weight 1; pea a size 1 weight 1;");
    }

    @Sentence(in = "Terms", says = "that is none of " + WORDS + ".")
    private static void nameIsNoneOfTheWords() {
        Check.due("words", WORDS.split(", ").length, 30);
        for (String word : WORDS.split(", ")) {
            Check.tentFault("pea " + word + " size 1 weight 1;", 2, 4);
            Check.tentFault("shooter " + word + " puff 1 shake 0;", 2, 8);
            taken("pea " + word + "s size 1 weight 1; pea " + word.substring(1) + " size 1 weight 1;");
        }
        taken("pea tent size 1 weight 1; pea round size 1 weight 1; pea right size 1 weight 1; pea up size 1 weight 1;");
    }

    @Sentence(in = "Terms", says = "One NAME is of one thing alone.")
    private static void oneNameIsOfOneThing() {
        String pea = "pea a size 1 weight 1;";
        String shooter = "shooter a puff 1 shake 0;";
        Check.tentFault(pea + pea, 3, pea.length() + 4);
        Check.tentFault(pea + shooter, 3, pea.length() + 8);
        Check.tentFault(shooter + pea, 3, shooter.length() + 4);
        Check.tentFault(shooter + shooter, 3, shooter.length() + 8);
        taken(pea + shooter.replace(" a ", " b "));
        PeaTube x = Check.withTent(pea + shooter.replace(" a ", " b "));
        Check.yes(x, "a name is free in the next tent", Check.tent(x, shooter + pea.replace(" a ", " b ")), 1);
    }

    @Sentence(in = "Terms", says = "The TUBE is so many inches long (12 to 48; 24 without)")
    private static void tube12To48And24Without() {
        numberWithin("tube ", 12, 48, " bore 8;");
        Check.due("12", Check.withTent("tube 12 bore 8;").many(0), 12);
        Check.due("48", Check.withTent("tube 48 bore 8;").many(0), 48);
        Check.due("without", Check.withTent("far 4;").many(0), 24);
    }

    @Sentence(in = "Terms", says = "its BORE 3 to 12 (8 without)")
    private static void bore3To12And8Without() {
        numberWithin("tube 24 bore ", 3, 12, ";");
        Check.due("3", Check.withTent("tube 24 bore 3;").many(1), 3);
        Check.due("12", Check.withTent("tube 24 bore 12;").many(1), 12);
        Check.due("without", Check.withTent("far 4;").many(1), 8);
    }

    @Sentence(in = "Terms", says = "the board stands so many yards FAR (4 to 20; 12 without)")
    private static void far4To20And12Without() {
        numberWithin("far ", 4, 20, ";");
        Check.due("4", Check.withTent("far 4;").many(2), 4);
        Check.due("20", Check.withTent("far 20;").many(2), 20);
        Check.due("without", Check.withTent("wind 4;").many(2), 12);
    }

    @Sentence(in = "Terms", says = "the WIND (0 to 9; 0 without) blows from left to right, or to the LEFT")
    private static void wind0To9AndNoneWithout() {
        numberWithin("wind ", 0, 9, ";");
        numberWithin("wind ", 0, 9, " left;");
        Check.due("0 to the left", Check.withTent("wind 0 left;").many(3), 0);
        Check.due("9", Check.withTent("wind 9;").many(3), 9);
        Check.due("9 to the left", Check.withTent("wind 9 left;").many(3), -9);
        Check.due("without", Check.withTent("far 4;").many(3), 0);
    }

    private static String rings(int many) {
        StringBuilder text = new StringBuilder();
        for (int i = 0; i < many; i++) {
            text.append("ring ").append(20 - i).append(" worth ").append(i + 1).append("; ");
        }
        return text.toString();
    }

    private static String peas(int many) {
        StringBuilder text = new StringBuilder();
        for (int i = 0; i < many; i++) {
            text.append("pea p").append((char) ('a' + i)).append(" size 1 weight ").append(i + 1).append("; ");
        }
        return text.toString();
    }

    private static String shooters(int many) {
        StringBuilder text = new StringBuilder();
        for (int i = 0; i < many; i++) {
            text.append("shooter s").append((char) ('a' + i)).append(" puff ").append(i + 1).append(" shake 0; ");
        }
        return text.toString();
    }

    @Sentence(in = "Terms", says = "RINGS, at most 6, by what they are WORTH")
    private static void atMost6Rings() {
        PeaTube x = Check.withTent(rings(6));
        Check.yes(x, "rings", x.many(4), 6);
        Check.yes(x, "the last one", x.ring(5, 0), 15);
        Check.tentFault(rings(7), 6, rings(6).length());
    }

    @Sentence(in = "Terms", says = "a RING reaches so far (1 to 60)")
    private static void ringReaches1To60() {
        numberWithin("ring ", 1, 60, " worth 1;");
    }

    @Sentence(in = "Terms", says = "WORTH 1 to 20")
    private static void ringIsWorth1To20() {
        numberWithin("ring 60 worth ", 1, 20, ";");
    }

    @Sentence(in = "Terms", says = "each one told behind reaches less, and is WORTH more, than that ahead.")
    private static void ringsBehindReachLessAndAreWorthMore() {
        taken("ring 9 worth 3; ring 8 worth 4; ring 1 worth 20;");
        Check.tentFault("ring 9 worth 3; ring 9 worth 4;", 4, 21);
        Check.tentFault("ring 9 worth 3; ring 10 worth 4;", 4, 21);
        Check.tentFault("ring 9 worth 3; ring 8 worth 3;", 4, 29);
        Check.tentFault("ring 9 worth 3; ring 8 worth 2;", 4, 29);
        Check.tentFault("ring 9 worth 3; ring 5 worth 9; ring 6 worth 10;", 4, 37);
        Check.tentFault("ring 9 worth 3; ring 5 worth 9; ring 4 worth 5;", 4, 45);
        Check.tentFault("ring 1 worth 1; ring 1 worth 2;", 4, 21);
        Check.tentFault("ring 1 worth 1; ring 0 worth 2;", 4, 21);
        Check.tentFault("ring 9 worth 20; ring 8 worth 20;", 4, 30);
        Check.tentFault("ring 9 worth 20; ring 8 worth 21;", 4, 30);
        taken("ring 9 worth 3; far 4; pea a size 9 weight 9; ring 8 worth 4;");
        Check.tentFault("ring 9 worth 3; far 4; ring 9 worth 4;", 4, 28);
    }

    @Sentence(in = "Terms", says = "PEAS, at most 8")
    private static void atMost8Peas() {
        PeaTube x = new PeaTube();
        Check.yes(x, "tent of 8 peas", Check.tent(x, peas(8)), 8);
        Check.yes(x, "the last one", x.pea(7, 1), 8);
        Check.tentFault(peas(9), 6, peas(8).length());
    }

    @Sentence(in = "Terms", says = "SIZE (1 to 12)")
    private static void size1To12() {
        numberWithin("pea a size ", 1, 12, " weight 1;");
        Check.due("12", Check.withTent("pea a size 12 weight 1;").pea(0, 0), 12);
    }

    @Sentence(in = "Terms", says = "WEIGHT (1 to 20)")
    private static void weight1To20() {
        numberWithin("pea a size 1 weight ", 1, 20, ";");
        Check.due("20", Check.withTent("pea a size 1 weight 20;").pea(0, 1), 20);
    }

    @Sentence(in = "Terms", says = "CROOKED so much (0 to 4; 0 without)")
    private static void crooked0To4AndNoneWithout() {
        numberWithin("pea a size 1 weight 1 crooked ", 0, 4, ";");
        Check.due("4", Check.withTent("pea a size 1 weight 1 crooked 4;").pea(0, 2), 4);
        PeaTube x = Check.withTent("pea a size 1 weight 1 crooked 4; pea b size 1 weight 1;");
        Check.yes(x, "without", x.pea(1, 2), 0);
        Check.yes(x, "tent", Check.tent(x, "pea a size 1 weight 1 crooked 3;"), 1);
        for (int i = 0; i < 3; i++) {
            Check.yes(x, "tent", Check.tent(x, "pea a size 1 weight 1;"), 1);
            Check.yes(x, "without, where one was crooked ahead", x.pea(0, 2), 0);
        }
    }

    @Sentence(in = "Terms", says = "WET or dry.")
    private static void wetOrDry() {
        PeaTube x = Check.withTent("pea a size 1 weight 1 wet; pea b size 1 weight 1;");
        Check.yes(x, "wet", x.pea(0, 3), 1);
        Check.yes(x, "dry", x.pea(1, 3), 0);
        Check.yes(x, "tent", Check.tent(x, "pea a size 1 weight 1 wet;"), 1);
        for (int i = 0; i < 3; i++) {
            Check.yes(x, "tent", Check.tent(x, "pea a size 1 weight 1;"), 1);
            Check.yes(x, "dry, where one was wet ahead", x.pea(0, 3), 0);
        }
    }

    @Sentence(in = "Terms", says = "SHOOTERS, at most 6")
    private static void atMost6Shooters() {
        PeaTube x = Check.withTent(shooters(6));
        Check.yes(x, "shooters", x.many(6), 6);
        Check.yes(x, "the last one", x.shooter(5, 0), 6);
        Check.tentFault(shooters(7), 6, shooters(6).length());
    }

    @Sentence(in = "Terms", says = "the hardest PUFF (1 to 40)")
    private static void hardestPuff1To40() {
        numberWithin("shooter a puff ", 1, 40, " shake 1;");
        Check.due("40", Check.withTent("shooter a puff 40 shake 1;").shooter(0, 0), 40);
    }

    @Sentence(in = "Terms", says = "by how much their hands SHAKE (0 to 6)")
    private static void shake0To6() {
        numberWithin("shooter a puff 1 shake ", 0, 6, ";");
        Check.due("6", Check.withTent("shooter a puff 1 shake 6;").shooter(0, 1), 6);
    }

    @Sentence(in = "Terms", says = "how far they LEAN to the right (0 to 9)")
    private static void leanToTheRight0To9() {
        numberWithin("shooter a puff 1 shake 0 lean ", 0, 9, " 0;");
        Check.due("9", Check.withTent("shooter a puff 1 shake 0 lean 9 0;").shooter(0, 2), 9);
        PeaTube x = Check.withTent("shooter a puff 1 shake 0 lean 9 8; shooter b puff 1 shake 0;");
        Check.yes(x, "without", x.shooter(1, 2), 0);
        Check.yes(x, "tent", Check.tent(x, "shooter a puff 1 shake 0 lean 7 6;"), 0);
        for (int i = 0; i < 3; i++) {
            Check.yes(x, "tent", Check.tent(x, "shooter a puff 1 shake 0;"), 0);
            Check.yes(x, "without, where one leaned ahead", x.shooter(0, 2), 0);
            Check.yes(x, "up, too", x.shooter(0, 3), 0);
        }
    }

    @Sentence(in = "Terms", says = "and up (0 to 9; down: LOW)")
    private static void leanUp0To9OrLow() {
        numberWithin("shooter a puff 1 shake 0 lean 0 ", 0, 9, ";");
        numberWithin("shooter a puff 1 shake 0 lean 0 ", 0, 9, " low;");
        Check.due("9", Check.withTent("shooter a puff 1 shake 0 lean 0 9;").shooter(0, 3), 9);
        Check.due("9 low", Check.withTent("shooter a puff 1 shake 0 lean 0 9 low;").shooter(0, 3), -9);
        Check.due("0 low", Check.withTent("shooter a puff 1 shake 0 lean 9 0 low;").shooter(0, 3), 0);
    }

    @Sentence(in = "Terms", says = "All are numbered as they stand.")
    private static void allAreNumberedAsTheyStand() {
        PeaTube x = Check.withTent("shooter z puff 3 shake 0; pea y size 5 weight 1; ring 9 worth 1; shooter b puff 4 shake 0;"
            + "ring 3 worth 2; pea c size 6 weight 1; pea a size 7 weight 1; shooter d puff 5 shake 0;");
        for (int i = 0; i < 3; i++) {
            Check.yes(x, "shooter " + i, x.shooter(i, 0), 3 + i);
            Check.yes(x, "pea " + i, x.pea(i, 0), 5 + i);
        }
        Check.yes(x, "the first ring", x.ring(0, 0), 9);
        Check.yes(x, "the last ring", x.ring(1, 0), 3);
        Check.no(x, "behind the last shooter", x.shooter(3, 0), 2);
        Check.no(x, "behind the last pea", x.pea(3, 0), 2);
        Check.no(x, "behind the last ring", x.ring(2, 0), 2);
    }

    @Sentence(in = "Terms", says = "TUBE, FAR, WIND are told once at most.")
    private static void tubeFarWindAreToldOnce() {
        taken("tube 12 bore 3; far 4; wind 0;");
        Check.tentFault("tube 12 bore 3; tube 12 bore 3;", 5, 16);
        Check.tentFault("far 4; far 4;", 5, 7);
        Check.tentFault("wind 0; wind 0;", 5, 8);
        PeaTube x = Check.withTent("tube 12 bore 3; far 4; wind 1;");
        Check.yes(x, "told again in the next tent", Check.tent(x, "tube 13 bore 4; far 5; wind 2;"), 0);
        Check.yes(x, "far", x.many(2), 5);
        Check.no(x, "told in a tent with a fault", Check.tent(x, "far 6; far 6;"), 10);
        Check.yes(x, "told once behind it", Check.tent(x, "far 7;"), 0);
    }

    @Sentence(in = "Terms", says = "FAULTS, the first along the text")
    private static void theFirstFaultAlongTheText() {
        Check.tentFault("far 3; !", 4, 4);
        Check.tentFault("go; far 3;", 2, 0);
        Check.tentFault("far 12345; far 4; far 4;", 1, 4);
        Check.tentFault("far 4; far 3; pea a size 13 weight 1;", 5, 7);
        Check.tentFault("pea a size 1 weight 1; pea a size 13 weight 1;", 3, 27);
        Check.tentFault("pea a size 13 weight 1; pea a size 1 weight 1;", 4, 11);
        Check.tentFault(rings(6) + "ring 99 worth 99;", 6, rings(6).length());
        Check.tentFault(rings(6) + "go; ring 1 worth 20;", 2, rings(6).length());
    }

    @Sentence(in = "Terms", says = "(of one TOKEN the least kind)")
    private static void ofOneTokenTheLeastKind() {
        // 1 and 2: no TOKEN where one must stand; 1 and 4: 00099 would be too great; 1 ahead of 5 and 6 is another TOKEN
        Check.tentFault("far !", 1, 4);
        Check.tentFault("!", 1, 0);
        Check.tentFault("far 00099;", 1, 4);
        Check.tentFault("wind 3 99999;", 1, 7);
        // 2 and 4: 9999 is no RING's reach, but can't stand there at all
        Check.tentFault("far 4 9999;", 2, 6);
        // 2 and 3: a NAME that is taken, where none may stand
        Check.tentFault("pea a size 1 weight 1; a", 2, 23);
        Check.tentFault("pea a size 1 weight 1 a", 2, 22);
        // 2 and 5: told already, but it can't stand there
        Check.tentFault("far 4; wind far;", 2, 12);
        // 2 and 6: a seventh ring, but it can't stand there
        Check.tentFault(rings(6) + "far ring;", 2, rings(6).length() + 4);
    }

    @Sentence(in = "Terms", says = "1 no TOKEN begins so (a NUMBER of 5 digits and more: at its first)")
    private static void fault1NoTokenBeginsSo() {
        Check.tentFault("!", 1, 0);
        Check.tentFault("   ?", 1, 3);
        Check.tentFault("far 4;\t", 1, 6);
        Check.tentFault("far 10000;", 1, 4);
        Check.tentFault("far 00000;", 1, 4);
        Check.tentFault("far  99999999999999999999;", 1, 5);
        Check.tentFault("12345", 1, 0);
        taken("far 0010;");
    }

    @Sentence(in = "Terms", says = "2 it can't stand there (the end: the text's length; a WORD of 9 letters and more where a NAME must stand)")
    private static void fault2ItCannotStandThere() {
        Check.tentFault("far", 2, 3);
        Check.tentFault("far  \n ", 2, 7);
        Check.tentFault("far 4", 2, 5);
        Check.tentFault("pea", 2, 3);
        Check.tentFault("pea abcdefghi size", 2, 4);
        Check.tentFault("pea abcdefghijklmnopqrstuvwxyz", 2, 4);
        Check.tentFault("shooter eightlets", 2, 8);
        // more letters than 64 bits hold, the last ones as of a WORD
        Check.tentFault("aaaaaaaaaaaaaaaafar 4;", 2, 0);
        Check.tentFault("pea aaaaaaaaaaaaaaaaaaaaaab size 1 weight 1;", 2, 4);
        // what is behind the text on the tape is no part of it, and no part of its last TOKEN
        endsAt("far 4;", 3);
        endsAt("farther 4;", 3);
        endsAt("far 44;", 5);
        endsAt("far 12;", 6);
        endsAt("pea abcdefghi size", 12);
        endsAt(" ".repeat(897) + "far", 900);
        endsAt(" ".repeat(895) + "far 4", 900);
    }

    /** The first n bytes are all well, but there must be more. */
    private static void endsAt(String tape, int n) {
        PeaTube x = new PeaTube();
        Check.feed(x, tape);
        Check.no(x, "tent(" + n + ") of " + tape.trim(), x.tent(n), 10);
        Check.due("fault(0)", x.fault(0), 2);
        Check.due("fault(1)", x.fault(1), n);
    }

    @Sentence(in = "Terms", says = "3 a NAME that is taken.")
    private static void fault3ANameThatIsTaken() {
        Check.tentFault("pea a size 1 weight 1; pea a", 3, 27);
        Check.tentFault(peas(7) + "pea pa size 1 weight 1;", 3, peas(7).length() + 4);
        Check.tentFault(peas(7) + "pea pg size 1 weight 1;", 3, peas(7).length() + 4);
        Check.tentFault(shooters(5) + "shooter se", 3, shooters(5).length() + 8);
        Check.tentFault("pea eightlet size 1 weight 1; shooter eightlet", 3, 38);
    }

    @Sentence(in = "Terms", says = "4 a NUMBER that can't be (a RING that does not reach less, is not WORTH more, too)")
    private static void fault4ANumberThatCannotBe() {
        Check.tentFault("far 0;", 4, 4);
        Check.tentFault("far 21", 4, 4);
        Check.tentFault("ring 9 worth 1; ring 9", 4, 21);
        Check.tentFault("ring 9 worth 1; ring 8 worth 1", 4, 29);
    }

    @Sentence(in = "Terms", says = "5 tube, far, wind told already (at that WORD)")
    private static void fault5ToldAlready() {
        Check.tentFault("tube 12 bore 3; tube", 5, 16);
        Check.tentFault("far 4; far", 5, 7);
        Check.tentFault("wind 4; far 4; wind 99", 5, 15);
    }

    @Sentence(in = "Terms", says = "6 a seventh ring, a ninth pea, a seventh shooter (at that WORD)")
    private static void fault6OneTooMany() {
        Check.tentFault(rings(6) + "ring", 6, rings(6).length());
        Check.tentFault(peas(8) + "pea", 6, peas(8).length());
        Check.tentFault(shooters(6) + "shooter", 6, shooters(6).length());
        taken(rings(6) + peas(8) + shooters(6));
        Check.tentFault(rings(6) + peas(8) + shooters(6) + "pea pa", 6, (rings(6) + peas(8) + shooters(6)).length());
    }

    @Sentence(in = "Terms", says = "A TENT that is taken is there in place of that ahead; no SPIT, no HOLES, scores are 0, there is no ROUND.")
    private static void aTentTakesThePlaceOfThatAhead() {
        PeaTube x = Check.withTent(Check.FAIR);
        Check.yes(x, "shoot", x.shoot(0, 1, 30, 0, 0, 0, 0, 0), 5);
        Check.yes(x, "round", Check.round(x, "wipe;"), 1);
        Check.yes(x, "tent", Check.tent(x, Check.FAIR), 4);
        Check.yes(x, "spit", x.many(7), 0);
        Check.yes(x, "holes", x.many(8), 0);
        Check.yes(x, "score", x.shooter(0, 4), 0);
        Check.yes(x, "the shooter's holes", x.shooter(0, 5), 0);
        Check.no(x, "play", x.play(0), 8);
        Check.no(x, "hole", x.hole(0, 0), 8);
        Check.yes(x, "an empty tent", x.tent(0), 0);
        int[] many = {24, 8, 12, 0, 0, 0, 0, 0, 0};
        for (int what = 0; what < many.length; what++) {
            Check.yes(x, "many(" + what + ")", x.many(what), many[what]);
        }
    }

    public static void main(String[] args) throws Exception {
        Sentences.test(TermsTextsTest.class);
    }
}
