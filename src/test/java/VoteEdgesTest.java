/** The edges of votes: "Terms" 2 and A VOTE, promises 9 to 14, sentence by sentence. */
public final class VoteEdgesTest {
    private static final Due DUE = new Due("VoteEdgesTest");
    private static final int LEFT = 0, RIGHT = 1, HOME = 2, TIE = 2;
    private static final int NONE = DogVotes.NONE, OUTSIDE = DogVotes.OUTSIDE;

    public static void main(String[] args) {
        livers();
        pulls();
        pullOfNothing();
        untold();
        fears();
        fearsThatAreNone();
        byLetters();
        wins();
        votesOfNobody();
        stolen();
        stolenBits();
        stolenByLiver();
        stolenByWhatOthersDo();
        won();
        rests();
        restsOfWhat();
        letOut();
        letOutWithTheDead();
        letOutAnew();
        letOutByLetters();
        DUE.end();
    }

    private static void livers() {
        DUE.of("LIVER l at the LEFT, r at the RIGHT bowl (0 to 20 each)");
        DogVotes x = Due.parish("1+0;");
        int[] livers = {Integer.MIN_VALUE, -1, 0, 1, 19, 20, 21, Integer.MAX_VALUE};
        for (int l : livers) {
            for (int r : livers) {
                boolean are = l >= 0 && l <= 20 && r >= 0 && r <= 20;
                int place = l >= r ? LEFT : RIGHT;
                String at = "(" + l + ", " + r;
                DUE.is("goes" + at + ", 0)", x.goes(l, r, 0), are ? place : OUTSIDE);
                DUE.is("vote" + at + ", 2)", x.vote(l, r, 2), are ? place : OUTSIDE);
                DUE.is("stolen" + at + ")", x.stolen(l, r), are ? 1 : OUTSIDE);
                DUE.is("letOut" + at + ", -1)", x.letOut(l, r, -1), are ? 1 - place : OUTSIDE);
                DUE.is("letOut" + at + ", 0)", x.letOut(l, r, 0), are ? 0 : OUTSIDE);
                DUE.is("letOut" + at + ", 1)", x.letOut(l, r, 1), are ? NONE : OUTSIDE);
            }
        }
        for (int r : livers) {
            DUE.is("won(" + r + ")", x.won(r), r >= 0 && r <= 20 ? r : OUTSIDE);
        }
        DUE.of("vote: HALVES LEFT (what = 0), RIGHT (1), who wins (2)");
        int[] answers = {1, 0, 0};
        for (int what = -1; what <= 3; what++) {
            DUE.is("vote(0, 0, " + what + ")", x.vote(0, 0, what), what >= 0 && what <= 2 ? answers[what] : OUTSIDE);
        }
    }

    private static void pulls() {
        DUE.of("its PULL is LIKING and l less r: above 0 LEFT, below 0 RIGHT");
        for (int liking = -9; liking <= 9; liking++) {
            DogVotes x = Due.parish("5" + (liking < 0 ? "-" : "+") + Math.abs(liking) + ";");
            for (int l = 0; l <= 20; l++) {
                for (int r = 0; r <= 20; r++) {
                    DUE.is("LIKING " + liking + ", " + l + ", " + r, x.goes(l, r, 0), liking + l - r >= 0 ? LEFT : RIGHT);
                }
            }
        }
    }

    private static void pullOfNothing() {
        DUE.of("at 0 where more HALVES have gone so far, LEFT if as many");
        for (int left = 1; left <= 9; left++) {
            for (int right = 1; right <= 9; right++) {
                String bowls = left + "+9;" + right + "-9;";
                int more = left >= right ? LEFT : RIGHT;
                DUE.is(bowls + " at 0", Due.parish(bowls + "1+0;").goes(0, 0, 2), more);
                DUE.is(bowls + " at 0 by LIVER", Due.parish(bowls + "1-3;").goes(7, 4, 2), more);
                DUE.is(bowls + " above 0", Due.parish(bowls + "1+1;").goes(0, 0, 2), LEFT);
                DUE.is(bowls + " below 0", Due.parish(bowls + "1-1;").goes(0, 0, 2), RIGHT);
            }
        }
        DUE.is("nobody has gone", Due.parish("1+0;3-9;").goes(0, 0, 0), LEFT);
        DUE.is("HALVES, not DOGS", Due.parish("1+9;1+9;3-9;1+0;").goes(0, 0, 3), RIGHT);
        DUE.is("who is at HOME has not gone", Due.parish("1+9;2-9;9+0!ab;1+0;").goes(0, 0, 3), RIGHT);
        DUE.is("whose turn comes later has not gone", Due.parish("1+0;9-9;").goes(0, 0, 0), LEFT);
    }

    private static void untold() {
        DUE.of("A LIKING that is not told is 0 (but for FITS)");
        DogVotes x = Due.parish("2?;");
        DUE.is("at 0", x.goes(4, 4, 0), LEFT);
        DUE.is("one more", x.goes(5, 4, 0), LEFT);
        DUE.is("one less", x.goes(3, 4, 0), RIGHT);
        x.counted(0, 9, 2);
        DUE.is("FITS: 9 alone", x.fits(0), 18);
        DUE.is("it is 0 in a VOTE nevertheless", x.goes(3, 4, 0), RIGHT);
        DUE.is("and in WON", x.won(7), 7);
        DUE.is("and in LET OUT", x.letOut(0, 1, -1), 0);
        DUE.is("and by NIGHT", x.night(0, 1, 1), 1);
        DUE.is("at 0 where more are", Due.parish("1-9;2?;").goes(0, 0, 1), RIGHT);
    }

    /** a is LEFT, b RIGHT; c FEARS whom it FEARS. */
    private static void fears() {
        DUE.of("If one that it FEARS has gone to that bowl, it goes to the other one .. else it stays at HOME");
        goesThird("1+9;1-9;1+1", LEFT, RIGHT, LEFT, HOME);
        goesThird("1+9;1-9;1-1", RIGHT, RIGHT, LEFT, HOME);
        goesThird("1+9;1-9;1+0", LEFT, RIGHT, LEFT, HOME);
        goesThird("2+9;1-9;1+0", LEFT, RIGHT, LEFT, HOME);
        goesThird("1+9;2-9;1+0", RIGHT, RIGHT, LEFT, HOME);
        goesThird("1+9;1+9;1+1", LEFT, RIGHT, RIGHT, RIGHT);
        goesThird("1+9;1+9;1-1", RIGHT, RIGHT, RIGHT, RIGHT);
        goesThird("1-9;1-9;1-1", RIGHT, LEFT, LEFT, LEFT);
        goesThird("1-9;1-9;1+1", LEFT, LEFT, LEFT, LEFT);
    }

    private static void goesThird(String text, int ofNone, int ofA, int ofB, int ofBoth) {
        String[] fears = {"", "!a", "!b", "!ab"};
        int[] wants = {ofNone, ofA, ofB, ofBoth};
        for (int k = 0; k < 4; k++) {
            DogVotes x = Due.parish(text + fears[k] + ";");
            DUE.is(text + fears[k], x.goes(0, 0, 2), wants[k]);
            int own = wants[k] == HOME ? 0 : 1;
            DUE.is(text + fears[k] + ": HALVES at both", x.vote(0, 0, 0) + x.vote(0, 0, 1),
                x.dog(0, 0) + x.dog(1, 0) + own);
        }
    }

    private static void fearsThatAreNone() {
        DUE.of("one that it FEARS has gone");
        DUE.is("one that has not gone yet", Due.parish("1+9!b;1+9;").goes(0, 0, 0), LEFT);
        DUE.is("nor is it shunned by who is feared", Due.parish("1+9!b;1+9;").goes(0, 0, 1), LEFT);
        DUE.is("of DOGS not of the ROLL", Due.parish("1+9;1+9!cg;").goes(0, 0, 1), LEFT);
        DUE.is("one at HOME", Due.parish("1+9;1-9;1+9!ab;1+9!c;").goes(0, 0, 3), LEFT);
        DogVotes x = Due.parish("1+9;1+9!a;");
        DUE.is("a lives", x.goes(0, 0, 1), RIGHT);
        x.dies(0);
        DUE.is("a is dead", x.goes(0, 0, 1), LEFT);
        DUE.is("each FEARS the other: the first", Due.parish("1+9!b;1+9!a;").goes(0, 0, 0), LEFT);
        DUE.is("each FEARS the other: the second", Due.parish("1+9!b;1+9!a;").goes(0, 0, 1), RIGHT);
        DUE.is("the last FEARS the first", Due.parish("1+9;" + "1-9;".repeat(5) + "1+9!a;").goes(0, 0, 6), RIGHT);
        DUE.is("the last FEARS the sixth", Due.parish("1+9;" + "1-9;".repeat(5) + "1-9!f;").goes(0, 0, 6), LEFT);
        DUE.is("the last FEARS both", Due.parish("1+9;" + "1-9;".repeat(5) + "1-9!af;").goes(0, 0, 6), HOME);
    }

    private static void byLetters() {
        DUE.of("DOGS are let out one by one, by letters");
        DogVotes x = Due.parish("1+0;2-1;3+0;9+0;");
        int[] wants = {LEFT, RIGHT, RIGHT, RIGHT};
        for (int dog = 0; dog < 4; dog++) {
            DUE.is("goes(0, 0, " + dog + ")", x.goes(0, 0, dog), wants[dog]);
        }
        DUE.is("HALVES LEFT", x.vote(0, 0, 0), 1);
        DUE.is("HALVES RIGHT", x.vote(0, 0, 1), 14);
    }

    private static void wins() {
        DUE.of("LEFT wins with more HALVES, RIGHT with more; else it is a TIE");
        for (int left = 1; left <= 9; left++) {
            for (int right = 1; right <= 9; right++) {
                DogVotes x = Due.parish(left + "+9;" + right + "-9;");
                DUE.is("HALVES LEFT", x.vote(0, 0, 0), left);
                DUE.is("HALVES RIGHT", x.vote(0, 0, 1), right);
                DUE.is(left + " and " + right, x.vote(0, 0, 2), left > right ? LEFT : left < right ? RIGHT : TIE);
            }
        }
        DogVotes all = Due.parish("9+0;".repeat(7));
        DUE.is("63 HALVES LEFT", all.vote(1, 0, 0), 63);
        DUE.is("none RIGHT", all.vote(1, 0, 1), 0);
        DUE.is("63 HALVES RIGHT", all.vote(0, 1, 1), 63);
        DUE.is("none LEFT", all.vote(0, 1, 0), 0);
    }

    private static void votesOfNobody() {
        DUE.of("else it is a TIE: nobody goes");
        DogVotes x = new DogVotes();
        DogVotes dead = Due.parish("5+9;");
        dead.dies(0);
        for (DogVotes y : new DogVotes[] {x, dead}) {
            DUE.is("HALVES LEFT", y.vote(20, 0, 0), 0);
            DUE.is("HALVES RIGHT", y.vote(0, 20, 1), 0);
            DUE.is("a TIE", y.vote(20, 0, 2), TIE);
            DUE.is("nobody to steal", y.stolen(0, 0), 0);
            DUE.is("by no LIVER", y.won(0), NONE);
            DUE.is("one rest", y.rests(-1), 1);
            DUE.is("no offers", y.rests(0), 0);
            DUE.is("HALVES by LET OUT", y.letOut(20, 0, -1), 0);
            DUE.is("a NIGHT of TIES", y.night(9999, 60, 2), 60);
        }
    }

    private static void stolenIs(String text, int wins, int bits) {
        DogVotes x = Due.parish(text);
        DUE.is(text + " vote", x.vote(0, 0, 2), wins);
        DUE.is(text + " stolen", x.stolen(0, 0), bits);
        DUE.is(text + " vote again", x.vote(0, 0, 2), wins);
    }

    private static void stolen() {
        DUE.of("STOLEN: DOGS without which (alone) what is told of who wins (0, 1, 2) is another");
        stolenIs("3+9;2-9;", LEFT, 1);
        stolenIs("2+9;3-9;", RIGHT, 2);
        stolenIs("1+9;", LEFT, 1);
        stolenIs("1-9;", RIGHT, 1);
        stolenIs("2+9;2-9;", TIE, 3);
        stolenIs("1+9;1+9;1-9;", LEFT, 3);
        stolenIs("1+9;2+9;1-9;", LEFT, 2);
        stolenIs("1+9;3+9;1-9;", LEFT, 2);
        stolenIs("2+9;2+9;1-9;", LEFT, 0);
        stolenIs("1-9;1-9;", RIGHT, 0);
        DUE.of("(alone)");
        stolenIs("1+9;1+9;", LEFT, 0);
    }

    private static void stolenBits() {
        DUE.of("STOLEN, as bits");
        stolenIs("1+9;1+9;1+9;1+9;1-9;1-9;1-9;", LEFT, 1 + 2 + 4 + 8);
        stolenIs("1+9;1+9;1+9;1-9;1-9;1-9;1-9;", RIGHT, 8 + 16 + 32 + 64);
        for (int dog = 0; dog < 7; dog++) {
            stolenIs("1+9;".repeat(dog) + "9-9;" + "1+9;".repeat(6 - dog), RIGHT, 1 << dog);
        }
        DogVotes x = Due.parish("3+9;2-9;");
        x.dies(1);
        DUE.is("a dead one is none", x.stolen(0, 0), 1);
    }

    /** a is LEFT from a lead of -2 on, b from 1 on (a being LEFT, at 0), c from 4 on. */
    private static void stolenByLiver() {
        DUE.of("STOLEN, by l and r");
        DogVotes x = Due.parish("3+2;2-1;2-4;");
        int[] leads = {-20, -3, -2, -1, 0, 1, 3, 4, 20};
        int[] wants = {0, 0, 2 + 4, 2 + 4, 2 + 4, 1, 1, 0, 0};
        for (int k = 0; k < leads.length; k++) {
            int least = Math.max(0, -leads[k]);
            DUE.is("lead " + leads[k], x.stolen(leads[k] + least, least), wants[k]);
            int most = Math.min(20, 20 - leads[k]);
            DUE.is("lead " + leads[k] + " of more LIVER", x.stolen(most + leads[k], most), wants[k]);
        }
        DUE.is("nobody is FULL: all are RIGHT", Due.parish("3+2;1-9;").stolen(0, 5), 0);
        DUE.is("nobody is FULL: all are LEFT", Due.parish("3-2;1+9;").stolen(5, 0), 0);
    }

    private static void stolenByWhatOthersDo() {
        DUE.of("STOLEN: who is feared, and who is followed, is not there");
        stolenIs("1+9;3+9!a;", RIGHT, 1 + 2);
        stolenIs("1+9;1-9;3+0!ab;", TIE, 1 + 2);
        stolenIs("1-9;1+0;1+0;", RIGHT, 1);
        stolenIs("1-9;1+0;1+0;1+0;", RIGHT, 1);
    }

    private static void won() {
        DUE.of("WON: the least LIVER (0 to 20) at the LEFT bowl with which LEFT wins");
        DogVotes likes = Due.parish("1+9;");
        DogVotes shuns = Due.parish("1-9;");
        for (int r = 0; r <= 20; r++) {
            DUE.is("won(" + r + ") with 9", likes.won(r), Math.max(0, r - 9));
            DUE.is("won(" + r + ") with -9", shuns.won(r), r + 9 <= 20 ? r + 9 : NONE);
        }
        DUE.of("the least, though more does not win");
        DogVotes x = Due.parish("1+2;2+0!a;");
        DUE.is("won(3)", x.won(3), 0);
        DUE.is("with 0", x.vote(0, 3, 2), LEFT);
        DUE.is("with 1", x.vote(1, 3, 2), RIGHT);
        DUE.is("won(2): a is LEFT, b shuns it", x.won(2), NONE);
        DUE.of("NONE: by no LIVER: a TIE is not won");
        DogVotes ties = Due.parish("1+0;1+0!a;");
        DUE.is("won(0)", ties.won(0), NONE);
        DUE.is("won(20)", ties.won(20), NONE);
        DUE.is("a TIE at 3, won at 4", Due.parish("1-3;1-4;").won(0), 4);
    }

    private static void restsAre(String text, int... offers) {
        DogVotes x = Due.parish(text);
        DUE.is(text + " how many", x.rests(-1), offers.length);
        for (int i = 0; i < offers.length; i++) {
            DUE.is(text + " rests(" + i + ")", x.rests(i), offers[i]);
        }
        for (int i : new int[] {Integer.MIN_VALUE, -2, offers.length, 100, Integer.MAX_VALUE}) {
            DUE.is(text + " rests(" + i + ")", x.rests(i), NONE);
        }
    }

    private static void rests() {
        DUE.of("RESTS: offers l, r (0 to 9 each)");
        // With 9 RIGHT would win by 10 alone, with 8 by 9.
        restsAre("1+9;", 0);
        restsAre("1+8;");
        // LEFT would win by 10 alone; by 9.
        restsAre("1-9;2-9!a;3-9;", 0);
        restsAre("1-9;");
        // Who has more LIVER wins: only where both offer the most, neither can offer more.
        restsAre("2+0;2-1;", 99);
        restsAre("1+0;");
        restsAre("", 0);
    }

    private static void restsOfWhat() {
        DUE.of("a party has 20 if it wins, 10 by a TIE, and less its offer");
        restsAre("1+0;1+0!a;", 0);
        // A TIE at no offers; LEFT wins by 9 and would have 11, one more than by the TIE.
        restsAre("1+9;1-9;");
        // RIGHT wins at no offers; LEFT has a TIE by 9, and would have 1, one more than now.
        restsAre("1-9;1+9;2-9!b;");
        // LEFT wins at no offers; RIGHT has a TIE by 9.
        restsAre("2+9;1+8;1+8;");
    }

    private static void order(DogVotes x, String what, int halves, int... dogs) {
        DUE.is(what + ": HALVES", x.letOut(0, 0, -1), halves);
        for (int i = 0; i < dogs.length; i++) {
            DUE.is(what + ": " + i, x.letOut(0, 0, i), dogs[i]);
        }
        for (int i : new int[] {Integer.MIN_VALUE, -2, dogs.length, 7, Integer.MAX_VALUE}) {
            DUE.is(what + ": letOut(0, 0, " + i + ")", x.letOut(0, 0, i), NONE);
        }
    }

    private static void letOut() {
        DUE.of("LET OUT: HALVES LEFT (i = -1), the i-th DOG; NONE");
        order(new DogVotes(), "nobody", 0);
        order(Due.parish("5-1;"), "one, RIGHT", 0, 0);
        order(Due.parish("5+1;"), "one, LEFT", 5, 0);
        order(Due.parish("5-1;4-1;3-1;"), "three, RIGHT", 0, 0, 1, 2);
        order(Due.parish("9+0;".repeat(7)), "seven", 63, 0, 1, 2, 3, 4, 5, 6);
        DUE.of("by which LEFT has the most HALVES, by l and r");
        // Just where each is let out behind the next one, all but a shun the bowl RIGHT.
        order(Due.parish("1-9!b;1-9!c;1-9!d;1-9!e;1-9!f;1-9!g;1-9;"), "each FEARS the next", 3, 0, 2, 1, 4, 3, 6, 5);
        order(Due.parish("9-9!g;1-9;1-9;1-9;1-9;1-9;1-9;"), "g ahead of a", 9, 1, 2, 3, 4, 5, 6, 0);
        DogVotes x = Due.parish("2+0;3-1;");
        DUE.is("by 0, 0", x.letOut(0, 0, -1), 2);
        DUE.is("by 20, 19", x.letOut(20, 19, -1), 5);
        DUE.is("by 19, 20", x.letOut(19, 20, -1), 0);
        DUE.is("by 20, 20", x.letOut(20, 20, -1), 2);
        DUE.is("by 20, 0", x.letOut(20, 0, -1), 5);
    }

    private static void letOutWithTheDead() {
        DUE.of("the order of all DOGS (dead ones, too)");
        DogVotes x = Due.parish("1+9;2+9;3+9!b;");
        order(x, "c ahead of b", 6, 0, 2, 1);
        x.dies(0);
        order(x, "a is dead", 5, 0, 2, 1);
        x.dies(1);
        order(x, "who is feared is dead", 3, 0, 1, 2);
        x.dies(2);
        order(x, "all are dead", 0, 0, 1, 2);
    }

    private static void letOutAnew() {
        DUE.of("LET OUT, by the ROLL as it is");
        DogVotes x = Due.parish("1+9;2+9!a;");
        order(x, "b ahead of a", 3, 1, 0);
        Due.write(x, "1+9!b;2+9;3+9;");
        x.roll();
        order(x, "a new ROLL", 6, 0, 1, 2);
        x.image(0);
        x.heir(2, 0);
        x.dies(2);
        order(x, "c leaves its HALVES to a", 6, 0, 1, 2);
        x.dies(1);
        order(x, "b leaves its HALVES to nobody", 4, 0, 1, 2);
        x.restore(0);
        order(x, "as it was", 6, 0, 1, 2);
    }

    private static void letOutByLetters() {
        DUE.of("the first by letters");
        order(Due.parish("1+9;1+9;1+9;"), "all orders alike", 3, 0, 1, 2);
        order(Due.parish("1+0;1-1;1+0;"), "a first", 2, 0, 1, 2);
        order(Due.parish("2-1;1+0;1+0;"), "a as late as need be", 2, 1, 2, 0);
        order(Due.parish("1-1;1+0;1+9;"), "a first, b behind c", 2, 0, 2, 1);
        order(Due.parish("1+9!b;1+9!a;"), "each FEARS the other: as heavy", 1, 0, 1);
        order(Due.parish("1+9!b;2+9!a;"), "each FEARS the other: the heavier one first", 2, 1, 0);
    }
}
