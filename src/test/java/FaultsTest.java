/** Promises 10 to 12: the FAULTS of a TENT and of a ROUND, their places, and texts at the edge that have none. */
public final class FaultsTest {
    private static void tokens() {
        Check.tentFault("Far 4;", 1, 0);
        Check.tentFault("far 4;\t", 1, 6);
        Check.tentFault("far 4;\r\n", 1, 6);
        Check.tentFault("far 00012;", 1, 4);
        Check.tentFault("far -4;", 1, 4);
        Check.tentFault("12345", 1, 0);
        Check.tentFault("1234", 2, 0);
        Check.tentFault("pea _x size", 1, 4);
        Check.tentFault("far 4 _", 1, 6);
        Check.tentFault("far far _", 2, 4);
        Check.tentFault("farther 4;", 2, 0);
        Check.tentFault("fa r 4;", 2, 0);
        Check.tentFault("far 1 2;", 4, 4);
        Check.tentFault("far 4<;", 2, 5);
        Check.due("tokens side by side", Check.tent(new PeaTube(), "far4;wind3left;ring0009worth0020;"), 0);
        Check.due("blanks all over", Check.tent(new PeaTube(), "\n\n  far\n4\n ;  \n"), 0);
    }

    private static void places() {
        Check.tentFault("far", 2, 3);
        Check.tentFault("far 4", 2, 5);
        Check.tentFault("far 4  ", 2, 7);
        Check.tentFault("far ;", 2, 4);
        Check.tentFault(";", 2, 0);
        Check.tentFault("bore 4;", 2, 0);
        Check.tentFault("left;", 2, 0);
        Check.tentFault("tube 24;", 2, 7);
        Check.tentFault("tube 24 bore;", 2, 12);
        Check.tentFault("wind 4 low;", 2, 7);
        Check.tentFault("wind left;", 2, 5);
        Check.tentFault("ring 4;", 2, 6);
        Check.tentFault("pea size size 1 weight 1;", 2, 4);
        Check.tentFault("pea stop size 1 weight 1;", 2, 4);
        Check.tentFault("pea ninelette size 1 weight 1;", 2, 4);
        Check.tentFault("pea 5 size 1 weight 1;", 2, 4);
        Check.tentFault("pea a weight 1 size 1;", 2, 6);
        Check.tentFault("pea a size 1 weight 1 wet crooked 1;", 2, 26);
        Check.tentFault("pea a size 1 weight 1 crooked wet;", 2, 30);
        Check.tentFault("shooter a puff 1;", 2, 16);
        Check.tentFault("shooter a puff 1 shake 1 lean 1;", 2, 31);
        Check.tentFault("shooter a puff 1 shake 1 low;", 2, 25);
        Check.tentFault("shooter a puff 1 shake 1 lean 1 1 left;", 2, 34);
        String[] words = ("tube bore far wind left ring worth pea size weight crooked wet shooter puff shake lean low load"
            + " aim beat shoot wipe next when score holes spit loop end stop").split(" ");
        for (String word : words) {
            Check.tentFault("pea " + word + " size 1 weight 1;", 2, 4);
            String name = word.substring(1) + "x";
            Check.due("a name like a word", Check.tent(new PeaTube(), "pea " + name + " size 1 weight 1;"), 1);
        }
        Check.due("a name of 8 letters", Check.tent(new PeaTube(), "pea eightlet size 1 weight 1;"), 1);
    }

    private static void namesAndNumbers() {
        Check.tentFault("pea a size 1 weight 1; pea a size 1 weight 1;", 3, 27);
        Check.tentFault("pea a size 1 weight 1; shooter a puff 1 shake 1;", 3, 31);
        Check.tentFault("shooter a puff 1 shake 1; pea a size 1 weight 1;", 3, 30);
        Check.tentFault("shooter a puff 1 shake 1; shooter a size", 3, 34);
        Check.tentFault("tube 11 bore 8;", 4, 5);
        Check.tentFault("tube 49 bore 8;", 4, 5);
        Check.tentFault("tube 12 bore 2;", 4, 13);
        Check.tentFault("tube 12 bore 13;", 4, 13);
        Check.tentFault("far 3;", 4, 4);
        Check.tentFault("far 21;", 4, 4);
        Check.tentFault("wind 10;", 4, 5);
        Check.tentFault("ring 0 worth 1;", 4, 5);
        Check.tentFault("ring 61 worth 1;", 4, 5);
        Check.tentFault("ring 60 worth 0;", 4, 14);
        Check.tentFault("ring 60 worth 21;", 4, 14);
        Check.tentFault("ring 9 worth 3; ring 9 worth 4;", 4, 21);
        Check.tentFault("ring 9 worth 3; ring 8 worth 3;", 4, 29);
        Check.tentFault("ring 1 worth 1; ring 1 worth 2;", 4, 21);
        Check.tentFault("ring 9 worth 20; ring 8 worth 20;", 4, 30);
        Check.tentFault("pea a size 0 weight 1;", 4, 11);
        Check.tentFault("pea a size 13 weight 1;", 4, 11);
        Check.tentFault("pea a size 1 weight 0;", 4, 20);
        Check.tentFault("pea a size 1 weight 21;", 4, 20);
        Check.tentFault("pea a size 1 weight 1 crooked 5;", 4, 30);
        Check.tentFault("shooter a puff 0 shake 1;", 4, 15);
        Check.tentFault("shooter a puff 41 shake 1;", 4, 15);
        Check.tentFault("shooter a puff 1 shake 7;", 4, 23);
        Check.tentFault("shooter a puff 1 shake 1 lean 10 1;", 4, 30);
        Check.tentFault("shooter a puff 1 shake 1 lean 1 10;", 4, 32);
        PeaTube x = new PeaTube();
        Check.yes(x, "the greatest of all", Check.tent(x, "tube 48 bore 12; far 20; wind 9 left; ring 60 worth 19; "
            + "ring 1 worth 20; pea a size 12 weight 20 crooked 4 wet; shooter b puff 40 shake 6 lean 9 9 low;"), 1);
        Check.yes(x, "up", x.shooter(0, 3), -9);
        Check.yes(x, "crooked", x.pea(0, 2), 4);
        Check.yes(x, "wet", x.pea(0, 3), 1);
        Check.yes(x, "the least of all", Check.tent(x, "tube 12 bore 3; far 4; wind 0 left; ring 1 worth 1; "
            + "pea a size 1 weight 1 crooked 0; shooter b puff 1 shake 0 lean 0 0;"), 1);
        Check.yes(x, "wind", x.many(3), 0);
    }

    private static void tooOften() {
        Check.tentFault("tube 12 bore 3; tube 12 bore 3;", 5, 16);
        Check.tentFault("far 4; wind 0; far 4;", 5, 15);
        Check.tentFault("wind 4; wind 4;", 5, 8);
        StringBuilder rings = new StringBuilder();
        StringBuilder peas = new StringBuilder();
        StringBuilder shooters = new StringBuilder();
        for (int i = 0; i < 8; i++) {
            if (i < 6) {
                rings.append("ring ").append(60 - i).append(" worth ").append(i + 1).append(";");
                shooters.append("shooter s").append((char) ('a' + i)).append(" puff 1 shake 0;");
            }
            peas.append("pea p").append((char) ('a' + i)).append(" size 1 weight 1;");
        }
        Check.due("six rings", Check.tent(new PeaTube(), rings.toString()), 0);
        Check.due("eight peas", Check.tent(new PeaTube(), peas.toString()), 8);
        Check.due("six shooters", Check.tent(new PeaTube(), shooters.toString()), 0);
        Check.tentFault(rings + "ring 1 worth 20;", 6, rings.length());
        Check.tentFault(rings + " ring", 6, rings.length() + 1);
        Check.tentFault(peas + "pea pa size", 6, peas.length());
        Check.tentFault(shooters + "shooter sa size", 6, shooters.length());
    }

    private static void rounds() {
        Check.roundFault("go;", 2, 0);
        Check.roundFault("tube;", 2, 0);
        Check.roundFault("score;", 2, 0);
        Check.roundFault("left;", 2, 0);
        Check.roundFault("wipe", 2, 4);
        Check.roundFault("wipe; !", 1, 6);
        Check.roundFault("beat 00001;", 1, 5);
        Check.roundFault("wipe 1;", 2, 5);
        Check.roundFault("end;", 2, 0);
        Check.roundFault("wipe; end;", 2, 6);
        Check.roundFault("loop 2; wipe;", 2, 13);
        Check.roundFault("loop 2; end", 2, 11);
        Check.roundFault("loop 2 wipe; end;", 2, 7);
        Check.roundFault("load;", 2, 4);
        Check.roundFault("load next;", 2, 5);
        Check.roundFault("load ninelette;", 2, 5);
        Check.roundFault("load nobody;", 3, 5);
        Check.roundFault("load ann;", 3, 5);
        Check.roundFault("shoot big;", 3, 6);
        Check.roundFault("when score big > 1; end;", 3, 11);
        Check.roundFault("when score > 1; end;", 2, 11);
        Check.roundFault("when holes 1; end;", 2, 11);
        Check.roundFault("when holes > ; end;", 2, 13);
        Check.roundFault("when aim > 1; end;", 2, 5);
        Check.roundFault("when holes => 1; end;", 2, 12);
        Check.roundFault("aim 1;", 2, 5);
        Check.roundFault("aim 1 1 low left;", 2, 12);
        Check.roundFault("aim 61 1;", 4, 4);
        Check.roundFault("aim 1 61;", 4, 6);
        Check.roundFault("puff 0;", 4, 5);
        Check.roundFault("puff 41;", 4, 5);
        Check.roundFault("beat 4;", 4, 5);
        Check.roundFault("loop 0; end;", 4, 5);
        Check.roundFault("loop 100; end;", 4, 5);
        Check.roundFault("when score ann > 1000; end;", 4, 17);
        Check.roundFault("when holes > 61; end;", 4, 13);
        Check.roundFault("when spit > 21; end;", 4, 12);
        PeaTube x = Check.withTent(Check.FAIR);
        Check.yes(x, "all at the edge", Check.round(x, "aim 60 60 left low; aim 0 0 low; puff 40; puff 1; beat 0; beat 3; "
            + "loop 99; end; loop 1; end; when score ann < 999; end; when holes = 60; end; when spit > 20; end; stop;"), 12);
    }

    private static void deepRounds() {
        PeaTube x = Check.withTent(Check.FAIR);
        Check.yes(x, "three within one another", Check.round(x, "loop 1; when spit=0; loop 1; wipe; end; end; end;"), 4);
        Check.roundFault("loop 1; loop 1; loop 1; when spit", 7, 24);
        Check.roundFault("loop 1; loop 1; loop 1; end; loop 1; loop 1", 7, 37);
        String thirty = "wipe;".repeat(30);
        Check.yes(x, "30 steps", Check.round(x, thirty), 30);
        Check.roundFault(thirty + "wipe;", 6, 150);
        Check.roundFault(thirty + "end;", 2, 150);
        Check.roundFault(thirty + "go;", 2, 150);
        Check.roundFault("loop 1; loop 1; loop 1; " + "wipe;".repeat(27) + "loop 1;", 6, 159);
        Check.yes(x, "30 steps and 30 ends", Check.round(x, "loop 1;end;".repeat(15) + "wipe;".repeat(15)), 30);
    }

    public static void main(String[] args) {
        tokens();
        places();
        namesAndNumbers();
        tooOften();
        rounds();
        deepRounds();
        Check.end();
    }
}
