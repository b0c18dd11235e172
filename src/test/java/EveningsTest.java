/** Promises 21 to 28. */
public final class EveningsTest {
    private static final Due DUE = new Due("EveningsTest");

    public static void main(String[] args) {
        ask();
        drop();
        hunger();
        best();
        bestByHunger();
        bestOfNothing();
        night();
        image();
        imagesAreTwo();
        told();
        DUE.end();
    }

    private static void ask() {
        DogVotes x = new DogVotes();
        DUE.is("ask(21, 0, 0)", x.ask(21, 0, 0), DogVotes.OUTSIDE);
        DUE.is("ask(-1, 0, 0)", x.ask(-1, 0, 0), DogVotes.OUTSIDE);
        DUE.is("ask(0, 21, 0)", x.ask(0, 21, 0), DogVotes.OUTSIDE);
        DUE.is("ask(0, -1, 0)", x.ask(0, -1, 0), DogVotes.OUTSIDE);
        DUE.is("ask(0, 0, 100)", x.ask(0, 0, 100), DogVotes.OUTSIDE);
        DUE.is("ask(0, 0, -1)", x.ask(0, 0, -1), DogVotes.OUTSIDE);
        DUE.is("told(4) of refused ones", x.told(4), 0);
        DUE.is("first", x.ask(0, 0, 0), 1);
        DUE.is("second", x.ask(20, 20, 99), 2);
        for (int k = 3; k <= 5; k++) {
            DUE.is("more", x.ask(k, k, k), k);
        }
        DUE.is("sixth", x.ask(0, 0, 0), DogVotes.FULL);
        DUE.is("sixth, OUTSIDE", x.ask(0, 0, 100), DogVotes.OUTSIDE);
        DUE.is("told(4)", x.told(4), 5);
    }

    private static void drop() {
        DogVotes x = Due.parish("1+0;");
        DUE.is("drop nothing", x.drop(), 0);
        x.ask(1, 0, 5);
        x.ask(1, 0, 6);
        DUE.is("worths", x.best(-1), 11);
        DUE.is("drop two", x.drop(), 2);
        DUE.is("told(4)", x.told(4), 0);
        DUE.is("no worths", x.best(-1), 0);
        DUE.is("a QUESTION more", x.ask(1, 0, 7), 1);
        DUE.is("its worth", x.best(-1), 7);
    }

    private static void hunger() {
        DogVotes x = new DogVotes();
        DUE.is("hunger(0)", x.hunger(0), DogVotes.OUTSIDE);
        DUE.is("hunger(10)", x.hunger(10), DogVotes.OUTSIDE);
        DUE.is("hunger(-1)", x.hunger(-1), DogVotes.OUTSIDE);
        DUE.is("hunger(1)", x.hunger(1), 2);
        DUE.is("hunger(9)", x.hunger(9), 1);
        DUE.is("told(2)", x.told(2), 9);
        DUE.is("hunger(9) again", x.hunger(9), 9);
    }

    private static void order(DogVotes x, String what, int worths, int... questions) {
        DUE.is(what + ": worths", x.best(-1), worths);
        for (int i = 0; i < questions.length; i++) {
            DUE.is(what + ": " + i, x.best(i), questions[i]);
        }
        DUE.is(what + ": behind", x.best(questions.length), DogVotes.NONE);
    }

    /** The one DOG likes RIGHT a little: LEFT wins as long as it is not FULL. */
    private static void best() {
        DogVotes x = Due.parish("1-1;");
        x.hunger(1);
        x.ask(5, 0, 10);
        x.ask(5, 0, 20);
        x.ask(5, 0, 15);
        order(x, "one of three", 20, 1, 0, 2);
        x.hunger(2);
        order(x, "two of three", 35, 1, 2, 0);
        x.hunger(3);
        order(x, "all three", 45, 0, 1, 2);
        x.ask(0, 0, 99);
        order(x, "one that LEFT can not win", 45, 0, 1, 2, 3);
        x.hunger(2);
        order(x, "no LIVER does not make FULL", 35, 1, 2, 0, 3);
        DUE.is("best(-2)", x.best(-2), DogVotes.NONE);
        DUE.is("best(least)", x.best(Integer.MIN_VALUE), DogVotes.NONE);
    }

    private static void bestByHunger() {
        DogVotes x = Due.parish("1+1;");
        x.hunger(1);
        x.ask(0, 9, 40);
        x.ask(1, 0, 1);
        order(x, "FULL first, then it goes by LIKING alone", 41, 1, 0);
        DogVotes y = Due.parish("1+1;");
        y.hunger(1);
        y.ask(0, 9, 40);
        y.ask(0, 0, 1);
        order(y, "a bowl without LIVER does not feed", 1, 0, 1);
        DogVotes z = Due.parish("1+1;");
        z.hunger(1);
        z.ask(0, 9, 40);
        z.ask(0, 9, 50);
        order(z, "it eats at the RIGHT, too", 50, 0, 1);
        DogVotes t = Due.parish("1-1;");
        t.hunger(1);
        t.ask(0, 0, 1);
        t.ask(5, 0, 10);
        order(t, "no LIVER at the RIGHT", 10, 0, 1);
        t.drop();
        t.ask(0, 1, 1);
        t.ask(5, 0, 10);
        order(t, "LIVER at the RIGHT", 10, 1, 0);
        Due.write(t, "1+5;");
        t.roll();
        order(t, "of a new ROLL", 11, 0, 1);
        DogVotes w = Due.parish("1+9;2-9!a;");
        w.hunger(1);
        w.ask(0, 3, 7);
        w.ask(20, 0, 8);
        order(w, "no LIVER LEFT, LIVER RIGHT", 0, 0, 1);
        DogVotes v = Due.parish("3+9;2+1!a;1+1!ab;");
        v.hunger(1);
        v.ask(1, 1, 1);
        v.ask(0, 5, 5);
        v.ask(0, 20, 6);
        order(v, "who is at HOME does not eat", 12, 0, 1, 2);
    }

    private static void bestOfNothing() {
        DogVotes x = new DogVotes();
        order(x, "no QUESTIONS", 0);
        x.ask(20, 0, 5);
        x.ask(20, 0, 5);
        order(x, "nobody", 0, 0, 1);
        DogVotes y = Due.parish("1-1;2-1;");
        for (int k = 0; k < 5; k++) {
            y.ask(5, 0, k + 1);
        }
        order(y, "the worthiest two first", 9, 3, 4, 0, 1, 2);
        y.dies(0);
        order(y, "one less", 9, 3, 4, 0, 1, 2);
        y.dies(1);
        order(y, "all are dead", 0, 0, 1, 2, 3, 4);
    }

    private static void night() {
        DogVotes x = Due.parish("3+2;2-1;");
        DUE.is("x is 74: 4, 7", x.night(0, 1, 1), 1);
        DUE.is("x is 74: not LEFT", x.night(0, 1, 0), 0);
        // 75 * 74 + 74 = 5624: 4, 2
        DUE.is("x is 5624: LEFT", x.night(0, 2, 0), 1);
        DUE.is("x is 5624: RIGHT", x.night(0, 2, 1), 1);
        DUE.is("no TIES", x.night(0, 60, 2), 0);
        DUE.is("all of 60", x.night(9999, 60, 0) + x.night(9999, 60, 1) + x.night(9999, 60, 2), 60);
        // 75 * 9999 + 74 = 749999, left over by 65537: 29092: 2, 9
        DogVotes y = Due.parish("1+6;");
        DUE.is("x is 29092: 6 and 2 less 9", y.night(9999, 1, 1), 1);
        DogVotes z = Due.parish("1+7;");
        DUE.is("x is 29092: 7 and 2 less 9", z.night(9999, 1, 0), 1);
        // 75 * 5000 + 74 = 375074, left over by 65537: 47389: 9, 8
        DUE.is("x is 47389: 9 less 8 less 1", Due.parish("1-1;").night(5000, 1, 0), 1);
        DUE.is("x is 47389: 9 less 8 less 2", Due.parish("1-2;").night(5000, 1, 1), 1);
        DUE.is("nobody", new DogVotes().night(5, 9, 2), 9);
        DUE.is("night(-1, 1, 0)", x.night(-1, 1, 0), DogVotes.OUTSIDE);
        DUE.is("night(10000, 1, 0)", x.night(10000, 1, 0), DogVotes.OUTSIDE);
        DUE.is("night(0, 0, 0)", x.night(0, 0, 0), DogVotes.OUTSIDE);
        DUE.is("night(0, 61, 0)", x.night(0, 61, 0), DogVotes.OUTSIDE);
        DUE.is("night(0, 1, 3)", x.night(0, 1, 3), DogVotes.OUTSIDE);
        DUE.is("night(0, 1, -1)", x.night(0, 1, -1), DogVotes.OUTSIDE);
    }

    private static void image() {
        DogVotes x = Due.parish("3+2!b;2?;");
        x.heir(0, 1);
        x.counted(1, 2, 3);
        x.ask(4, 0, 6);
        x.hunger(7);
        Due.write(x, "1+");
        DUE.is("image(0)", x.image(0), 1);
        DUE.is("image(-1)", x.image(-1), DogVotes.OUTSIDE);
        DUE.is("image(2)", x.image(2), DogVotes.OUTSIDE);
        DUE.is("nothing goes by it", x.told(1), 2);
        DUE.is("nor the PAD", x.told(0), 2);
        int fits = x.fits(-1);
        x.dies(0);
        x.heir(1, 0);
        x.heir(0, -1);
        x.counted(5, 5, 5);
        x.drop();
        x.ask(9, 9, 9);
        x.ask(9, 9, 9);
        x.hunger(1);
        x.say('3');
        x.fits(-1);
        x.best(-1);
        DUE.is("LET OUT, the heir alone", x.letOut(0, 1, -1), 0);
        DUE.is("restore(0)", x.restore(0), 1);
        DUE.is("LET OUT, both", x.letOut(0, 1, -1), 3);
        DUE.is("the PAD is left alone", x.told(0), 3);
        DUE.is("DOGS", x.told(1), 2);
        DUE.is("HALVES of the dead", x.dog(0, 0), 3);
        DUE.is("HALVES of the heir", x.dog(1, 0), 2);
        DUE.is("LIKING", x.dog(0, 1), 11);
        DUE.is("LIKING not told", x.dog(1, 1), DogVotes.NONE);
        DUE.is("FEARS", x.dog(0, 2), 2);
        DUE.is("HEIR", x.told(10), 1);
        DUE.is("no HEIR", x.told(11), DogVotes.NONE);
        DUE.is("COUNTS", x.told(3), 1);
        DUE.is("FITS", x.fits(-1), fits);
        DUE.is("QUESTIONS", x.told(4), 1);
        DUE.is("worths", x.best(-1), 6);
        DUE.is("HUNGER", x.told(2), 7);
    }

    private static void imagesAreTwo() {
        DogVotes x = new DogVotes();
        DUE.is("restore(-1)", x.restore(-1), DogVotes.OUTSIDE);
        DUE.is("restore(2)", x.restore(2), DogVotes.OUTSIDE);
        DUE.is("restore(0)", x.restore(0), DogVotes.STATE);
        DUE.is("image(1) of nobody", x.image(1), 1);
        DUE.is("restore(0) still", x.restore(0), DogVotes.STATE);
        Due.write(x, "3+2;");
        x.roll();
        x.image(0);
        x.dies(0);
        DUE.is("restore(1)", x.restore(1), 1);
        DUE.is("nobody", x.told(1), 0);
        DUE.is("restore(0) now", x.restore(0), 1);
        DUE.is("one", x.dog(0, 0), 3);
        x.hunger(5);
        x.image(0);
        x.hunger(6);
        DUE.is("restore(0) of the later IMAGE", x.restore(0), 1);
        DUE.is("its HUNGER", x.told(2), 5);
        x.dies(0);
        DUE.is("restore(0) once more", x.restore(0), 1);
        DUE.is("an IMAGE does not change", x.dog(0, 0), 3);
    }

    private static void told() {
        DogVotes x = Due.parish("3?;2?;1+0;1?;1+0;1+0;1+0;");
        Due.write(x, "123");
        x.heir(6, 0);
        x.heir(0, 6);
        DUE.is("told(0)", x.told(0), 3);
        DUE.is("told(1)", x.told(1), 7);
        DUE.is("told(2)", x.told(2), 2);
        DUE.is("told(5)", x.told(5), 3);
        DUE.is("told(10)", x.told(10), 6);
        DUE.is("told(15)", x.told(15), DogVotes.NONE);
        DUE.is("told(16)", x.told(16), 0);
        DUE.is("told(17)", x.told(17), DogVotes.OUTSIDE);
        DUE.is("told(-1)", x.told(-1), DogVotes.OUTSIDE);
        for (int what = 6; what < 10; what++) {
            DUE.is("told(" + what + ")", x.told(what), DogVotes.OUTSIDE);
        }
        DUE.is("told(least)", x.told(Integer.MIN_VALUE), DogVotes.OUTSIDE);
        DUE.is("told(most)", x.told(Integer.MAX_VALUE), DogVotes.OUTSIDE);
        DogVotes y = Due.parish("3?;2?;");
        DUE.is("told(11)", y.told(11), DogVotes.NONE);
        DUE.is("told(12)", y.told(12), DogVotes.OUTSIDE);
    }
}
