/** Promises 9 to 14. */
public final class VotesTest {
    private static final Due DUE = new Due("VotesTest");

    public static void main(String[] args) {
        goes();
        ties();
        fears();
        fearsBothBowls();
        theDead();
        vote();
        stolen();
        won();
        rests();
        letOut();
        DUE.end();
    }

    private static void goes() {
        DogVotes x = Due.parish("3+2;2-1;4?;");
        DUE.is("LIKING 2", x.goes(0, 1, 0), 0);
        DUE.is("LIKING 2 at 0: as many", x.goes(0, 2, 0), 0);
        DUE.is("LIKING 2 below 0", x.goes(0, 3, 0), 1);
        DUE.is("LIKING -1", x.goes(0, 0, 1), 1);
        DUE.is("LIKING -1 at 0", x.goes(1, 0, 1), 0);
        DUE.is("LIKING not told is 0", x.goes(1, 0, 2), 0);
        DUE.is("LIKING not told, RIGHT", x.goes(0, 1, 2), 1);
        DUE.is("goes(20, 20, 0)", x.goes(20, 20, 0), 0);
        DUE.is("goes(0, 0, 3)", x.goes(0, 0, 3), DogVotes.UNKNOWN);
        DUE.is("goes(0, 0, -1)", x.goes(0, 0, -1), DogVotes.UNKNOWN);
        DUE.is("goes(21, 0, 3)", x.goes(21, 0, 3), DogVotes.UNKNOWN);
        DUE.is("goes(21, 0, 0)", x.goes(21, 0, 0), DogVotes.OUTSIDE);
        DUE.is("goes(-1, 0, 0)", x.goes(-1, 0, 0), DogVotes.OUTSIDE);
        DUE.is("goes(0, 21, 0)", x.goes(0, 21, 0), DogVotes.OUTSIDE);
        DUE.is("goes(0, -1, 0)", x.goes(0, -1, 0), DogVotes.OUTSIDE);
    }

    private static void ties() {
        DogVotes x = Due.parish("3+0;4-1;1+0;1+0;");
        DUE.is("at 0, nobody gone: LEFT", x.goes(0, 0, 0), 0);
        DUE.is("at 0, more gone RIGHT", x.goes(0, 0, 2), 1);
        DogVotes y = Due.parish("3+1;3-1;1+0;1+0;");
        DUE.is("at 0, as many: LEFT", y.goes(0, 0, 2), 0);
        DUE.is("at 0, more gone LEFT", y.goes(0, 0, 3), 0);
        DogVotes z = Due.parish("1+1;1+1;5-1;1+0;");
        DUE.is("HALVES, not DOGS", z.goes(0, 0, 3), 1);
    }

    private static void fears() {
        DogVotes x = Due.parish("3+2;2+1!a;");
        DUE.is("shuns the one it FEARS", x.goes(0, 0, 1), 1);
        DogVotes y = Due.parish("3-2;2-1!a;");
        DUE.is("shuns it at the RIGHT", y.goes(0, 0, 1), 0);
        DogVotes z = Due.parish("3+2!b;2+1;");
        DUE.is("FEARS one that has not gone yet", z.goes(0, 0, 0), 0);
        DUE.is("who follows it", z.goes(0, 0, 1), 0);
        DogVotes w = Due.parish("3+2;2-1!a;");
        DUE.is("the feared one is elsewhere", w.goes(0, 0, 1), 1);
        DogVotes v = Due.parish("3+2!g;2+1!fg;");
        DUE.is("FEARS who is not of the ROLL", v.goes(0, 0, 1), 0);
        DogVotes u = Due.parish("3+2;2+0!a;");
        DUE.is("at 0 it would go LEFT, but FEARS", u.goes(0, 0, 1), 1);
    }

    private static void fearsBothBowls() {
        DogVotes x = Due.parish("3+2;2-1;1+9!ab;4-9!ab;1+9!cd;");
        DUE.is("HOME", x.goes(0, 0, 2), 2);
        DUE.is("HOME, from RIGHT", x.goes(0, 0, 3), 2);
        DUE.is("one at HOME is not feared", x.goes(0, 0, 4), 0);
        DUE.is("both feared at one bowl", x.goes(10, 0, 2), 1);
        DUE.is("both feared at the RIGHT", x.goes(0, 10, 3), 0);
    }

    private static void theDead() {
        DogVotes x = Due.parish("3+2;2+1!a;1+9!ab;");
        x.dies(0);
        DUE.is("the dead are at HOME", x.goes(20, 0, 0), 2);
        DUE.is("the dead are not feared", x.goes(0, 0, 1), 0);
        DUE.is("HALVES LEFT", x.vote(0, 0, 0), 2);
        DUE.is("HALVES RIGHT", x.vote(0, 0, 1), 1);
    }

    private static void vote() {
        DogVotes x = Due.parish("3+2;2-1;1+9!ab;");
        DUE.is("HALVES LEFT", x.vote(0, 0, 0), 3);
        DUE.is("HALVES RIGHT", x.vote(0, 0, 1), 2);
        DUE.is("LEFT wins", x.vote(0, 0, 2), 0);
        DUE.is("all RIGHT, but who FEARS", x.vote(0, 20, 1), 5);
        DUE.is("who FEARS is LEFT", x.vote(0, 20, 0), 1);
        DUE.is("RIGHT wins", x.vote(0, 20, 2), 1);
        DUE.is("vote(0, 0, 3)", x.vote(0, 0, 3), DogVotes.OUTSIDE);
        DUE.is("vote(0, 0, -1)", x.vote(0, 0, -1), DogVotes.OUTSIDE);
        DUE.is("vote(21, 0, 0)", x.vote(21, 0, 0), DogVotes.OUTSIDE);
        DUE.is("vote(-1, 0, 0)", x.vote(-1, 0, 0), DogVotes.OUTSIDE);
        DUE.is("vote(0, 21, 0)", x.vote(0, 21, 0), DogVotes.OUTSIDE);
        DUE.is("vote(0, -1, 0)", x.vote(0, -1, 0), DogVotes.OUTSIDE);
        DogVotes y = Due.parish("2+2;2-2;");
        DUE.is("a TIE", y.vote(0, 0, 2), 2);
        DUE.is("nobody: a TIE", new DogVotes().vote(20, 0, 2), 2);
    }

    private static void stolen() {
        DogVotes x = Due.parish("3+2;2-1;1-1;");
        DUE.is("TIE: each one", x.stolen(0, 0), 7);
        DUE.is("all LEFT: none", x.stolen(9, 0), 0);
        DUE.is("RIGHT has more LIVER: none", x.stolen(2, 9), 0);
        DUE.is("l less r: a alone", Due.parish("3+2;2-1;").stolen(5, 6), 1);
        DUE.is("l less r: a is LEFT, b at 0", Due.parish("2-4;3-5;").stolen(9, 5), 2);
        DUE.is("stolen(21, 0)", x.stolen(21, 0), DogVotes.OUTSIDE);
        DUE.is("stolen(-1, 0)", x.stolen(-1, 0), DogVotes.OUTSIDE);
        DUE.is("stolen(0, 21)", x.stolen(0, 21), DogVotes.OUTSIDE);
        DUE.is("stolen(0, -1)", x.stolen(0, -1), DogVotes.OUTSIDE);
        DogVotes y = Due.parish("4+2;3-1;");
        DUE.is("LEFT wins but by a", y.stolen(0, 0), 1);
        DogVotes z = Due.parish("1-2;4-1!a;2-1;");
        DUE.is("b goes RIGHT without a", z.stolen(0, 0), 1 + 2);
        DogVotes w = Due.parish("2+1;2+1;");
        DUE.is("LEFT wins without either", w.stolen(0, 0), 0);
        w.dies(0);
        DUE.is("a TIE without the last; the dead is none", w.stolen(0, 0), 2);
        DUE.is("nobody", new DogVotes().stolen(0, 0), 0);
    }

    private static void won() {
        DogVotes x = Due.parish("3+2;2-1;");
        DUE.is("won(0)", x.won(0), 0);
        DUE.is("won(2)", x.won(2), 0);
        DUE.is("won(3)", x.won(3), 1);
        DUE.is("won(20)", x.won(20), 18);
        DUE.is("won(21)", x.won(21), DogVotes.OUTSIDE);
        DUE.is("won(-1)", x.won(-1), DogVotes.OUTSIDE);
        DogVotes y = Due.parish("1-9;");
        DUE.is("won(11)", y.won(11), 20);
        DUE.is("won(12): by no LIVER", y.won(12), DogVotes.NONE);
        DogVotes z = Due.parish("2+0;2+0!a;");
        DUE.is("always a TIE", z.won(0), DogVotes.NONE);
        DogVotes w = Due.parish("1+2;2+0!a;");
        DUE.is("won as the other shuns a at the RIGHT", w.won(3), 0);
        DUE.is("not won with more", w.vote(1, 3, 2), 1);
        DogVotes v = Due.parish("1+9;2-5!a;3+0;");
        DUE.is("TIE at 0: least LIVER is not the last", v.won(0), 1);
        DUE.is("nobody", new DogVotes().won(0), DogVotes.NONE);
    }

    private static void rests() {
        DogVotes nobody = new DogVotes();
        DUE.is("nobody: how many", nobody.rests(-1), 1);
        DUE.is("nobody: first", nobody.rests(0), 0);
        DUE.is("nobody: second", nobody.rests(1), DogVotes.NONE);
        DUE.is("rests(-2)", nobody.rests(-2), DogVotes.NONE);
        DUE.is("rests(least)", nobody.rests(Integer.MIN_VALUE), DogVotes.NONE);
        DUE.is("rests(most)", nobody.rests(Integer.MAX_VALUE), DogVotes.NONE);
        DogVotes x = Due.parish("3+2;2-1;");
        DUE.is("none", x.rests(-1), 0);
        DUE.is("none: first", x.rests(0), DogVotes.NONE);
        for (String text : new String[] {"1-9;", "1+9;", "1-8;2-9!a;", "1+3;1-3;", "2+5;1-9;1-9;", "1+9;1-9;", "2+0!b;2-9!a;1+9;",
                "1-4;1+4;", "2+9;1-4;1-4;", "1+8;1-9!a;"}) {
            restsOf(text);
        }
        DogVotes y = Due.parish("2+0;2-1;");
        DUE.is("both at 9: how many", y.rests(-1), 1);
        DUE.is("both at 9: first", y.rests(0), 99);
        restsOf("2+0;2-1;");
        DUE.is("10 by a TIE, less 9, is more than 0", Due.parish("1-9;1+9;2-9!b;").rests(-1), 0);
    }

    /** By the words of the document, from what vote answers. */
    private static void restsOf(String text) {
        DogVotes x = Due.parish(text);
        int found = 0;
        for (int offers = 0; offers < 100; offers++) {
            int l = offers / 10;
            int r = offers % 10;
            boolean rest = true;
            for (int k = 0; k < 10; k++) {
                rest &= has(x, k, r, 0) <= has(x, l, r, 0) && has(x, l, k, 1) <= has(x, l, r, 1);
            }
            if (rest) {
                DUE.is(text + " rests(" + found + ")", x.rests(found), offers);
                found++;
            }
        }
        DUE.is(text + " rests(-1)", x.rests(-1), found);
        DUE.is(text + " rests(behind)", x.rests(found), DogVotes.NONE);
    }

    private static int has(DogVotes x, int l, int r, int party) {
        int wins = x.vote(l, r, 2);
        return (wins == party ? 20 : wins == 2 ? 10 : 0) - (party == 0 ? l : r);
    }

    private static void order(DogVotes x, String what, int halves, int... dogs) {
        DUE.is(what + ": HALVES", x.letOut(0, 0, -1), halves);
        for (int i = 0; i < dogs.length; i++) {
            DUE.is(what + ": " + i, x.letOut(0, 0, i), dogs[i]);
        }
        DUE.is(what + ": behind", x.letOut(0, 0, dogs.length), DogVotes.NONE);
    }

    private static void letOut() {
        order(new DogVotes(), "nobody", 0);
        order(Due.parish("3+2;2+1!a;"), "b first", 5, 1, 0);
        order(Due.parish("3+2;2+1;"), "by letters", 5, 0, 1);
        order(Due.parish("3-2;2-1;"), "none LEFT", 0, 0, 1);
        order(Due.parish("3-2;2-1!a;"), "by letters, as b FEARS", 2, 0, 1);
        order(Due.parish("3-2!b;2-1;"), "b ahead of a", 3, 1, 0);
        order(Due.parish("1+0;3-1;1+1;4+0;"), "at 0 where more are", 6, 0, 2, 3, 1);
        DogVotes x = Due.parish("1+1;3+2;2+1!b;");
        x.dies(0);
        order(x, "a dead one is let out, too", 5, 0, 2, 1);
        order(Due.parish("1-9!b;1-9!c;1-9!d;1-9!e;1-9!f;1-9!g;1-9;"), "seven", 3, 0, 2, 1, 4, 3, 6, 5);
        DogVotes y = Due.parish("3+2;2-1;");
        DUE.is("letOut(-1) by l", y.letOut(5, 0, -1), 5);
        DUE.is("letOut(-1) by r", y.letOut(0, 5, -1), 0);
        DUE.is("letOut(-1) by l again", y.letOut(5, 0, -1), 5);
        DUE.is("letOut(-1) by as much", y.letOut(3, 3, -1), 3);
        DUE.is("letOut(0, 0, -2)", y.letOut(0, 0, -2), DogVotes.NONE);
        DUE.is("letOut(0, 0, 2)", y.letOut(0, 0, 2), DogVotes.NONE);
        DUE.is("letOut(21, 0, -1)", y.letOut(21, 0, -1), DogVotes.OUTSIDE);
        DUE.is("letOut(-1, 0, -1)", y.letOut(-1, 0, -1), DogVotes.OUTSIDE);
        DUE.is("letOut(0, 21, 9)", y.letOut(0, 21, 9), DogVotes.OUTSIDE);
        DUE.is("letOut(0, -1, 9)", y.letOut(0, -1, 9), DogVotes.OUTSIDE);
        y.letOut(5, 0, -1);
        y.dies(0);
        DUE.is("after a death", y.letOut(5, 0, -1), 2);
        Due.write(y, "7+0;");
        y.roll();
        DUE.is("of a new ROLL", y.letOut(5, 0, -1), 7);
    }
}
