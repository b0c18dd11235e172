/** The edges of evenings: "Terms" 5, promises 21 to 28, sentence by sentence. */
public final class EveningEdgesTest {
    private static final Due DUE = new Due("EveningEdgesTest");
    private static final int NONE = DogVotes.NONE, OUTSIDE = DogVotes.OUTSIDE;
    private static final int STATE = DogVotes.STATE, FULL = DogVotes.FULL;

    public static void main(String[] args) {
        fiveQuestions();
        numbersOfQuestions();
        drop();
        hunger();
        hungerAtFirst();
        soManyTimes();
        liverAboveNothing();
        whoIsAtHomeDoesNotEat();
        notFullAtItsBeginning();
        bestOfAsMany();
        worths();
        theFirstByNumbers();
        nightNumbers();
        nightByEverySeed();
        nightsAddUp();
        nobodyIsFullByNight();
        images();
        imageOfNothing();
        imagesAreTwo();
        imageLeavesThePad();
        told();
        DUE.end();
    }

    private static void fiveQuestions() {
        DUE.of("QUESTIONS, 5 at most: how many; FULL");
        DogVotes x = Due.parish("1+0;");
        for (int k = 1; k <= 5; k++) {
            DUE.is("told(4)", x.told(4), k - 1);
            DUE.is("QUESTION " + k, x.ask(1, 0, k), k);
        }
        DUE.is("QUESTION 6", x.ask(1, 0, 99), FULL);
        DUE.is("told(4)", x.told(4), 5);
        DUE.is("the sixth is worth nothing", x.best(-1), 15);
        DUE.is("drop", x.drop(), 5);
        DUE.is("the first again", x.ask(1, 0, 7), 1);
        DUE.is("its worth", x.best(-1), 7);
    }

    private static void numbersOfQuestions() {
        DUE.of("l, r (0 to 20), worth (0 to 99)");
        int[] livers = {-1, 0, 20, 21};
        int[] worths = {-1, 0, 99, 100};
        for (int l : livers) {
            for (int r : livers) {
                for (int worth : worths) {
                    DogVotes x = Due.parish("1+0;");
                    boolean are = l >= 0 && l <= 20 && r >= 0 && r <= 20 && worth >= 0 && worth <= 99;
                    DUE.is("ask(" + l + ", " + r + ", " + worth + ")", x.ask(l, r, worth), are ? 1 : OUTSIDE);
                    DUE.is("told(4)", x.told(4), are ? 1 : 0);
                    DUE.is("worths", x.best(-1), are && l >= r ? worth : 0);
                    DUE.is("the first", x.best(0), are ? 0 : NONE);
                }
            }
        }
    }

    private static void drop() {
        DUE.of("QUESTIONS go: how many there were");
        for (int questions = 0; questions <= 5; questions++) {
            DogVotes x = Due.parish("1+0;");
            for (int k = 0; k < questions; k++) {
                x.ask(1, 0, 10);
            }
            DUE.is("worths", x.best(-1), 10 * questions);
            DUE.is("drop", x.drop(), questions);
            DUE.is("told(4)", x.told(4), 0);
            DUE.is("worths of none", x.best(-1), 0);
            DUE.is("first of none", x.best(0), NONE);
            DUE.is("drop again", x.drop(), 0);
        }
    }

    private static void hunger() {
        DUE.of("HUNGER, 1 to 9: which it was");
        DogVotes x = new DogVotes();
        int was = 2;
        for (int v = -2; v <= 12; v++) {
            boolean is = v >= 1 && v <= 9;
            DUE.is("hunger(" + v + ")", x.hunger(v), is ? was : OUTSIDE);
            was = is ? v : was;
            DUE.is("told(2)", x.told(2), was);
        }
        DUE.is("hunger(1)", x.hunger(1), 9);
        DUE.is("hunger(1) again", x.hunger(1), 1);
    }

    /** It likes RIGHT a little: LEFT wins as long as it is not FULL. */
    private static DogVotes shy(int questions) {
        DogVotes x = Due.parish("1-1;");
        for (int k = 0; k < questions; k++) {
            x.ask(5, 0, 1);
        }
        return x;
    }

    private static void hungerAtFirst() {
        DUE.of("HUNGER, 2 at first");
        DUE.is("told(2)", new DogVotes().told(2), 2);
        DUE.is("one", shy(1).best(-1), 1);
        DUE.is("two", shy(2).best(-1), 2);
        DUE.is("three", shy(3).best(-1), 2);
        DUE.is("a new ROLL does not change it", shy(0).told(2), 2);
    }

    private static void soManyTimes() {
        DUE.of("each DOG is FULL when it has gone to a bowl with LIVER above 0 so many times in it");
        for (int questions = 0; questions <= 5; questions++) {
            for (int hunger = 1; hunger <= 9; hunger++) {
                DogVotes x = shy(questions);
                x.hunger(hunger);
                DUE.is(questions + " QUESTIONS, HUNGER " + hunger, x.best(-1), Math.min(questions, hunger));
            }
        }
        DUE.of("HUNGER counts as it is");
        DogVotes z = shy(5);
        for (int hunger = 1; hunger <= 9; hunger++) {
            z.hunger(hunger);
            DUE.is("HUNGER " + hunger, z.best(-1), Math.min(5, hunger));
        }
        DUE.of("each DOG by itself");
        // b eats by both of the first two, a by none of them, for its bowl has no LIVER.
        DogVotes y = Due.parish("3+1;5-9;");
        y.hunger(2);
        y.ask(0, 1, 1);
        y.ask(0, 1, 2);
        y.ask(9, 0, 4);
        DUE.is("worths", y.best(-1), 4);
        DUE.is("the third comes before b is FULL", y.best(0), 0);
        DUE.is("second", y.best(1), 2);
        DUE.is("third", y.best(2), 1);
    }

    private static void order(DogVotes x, String what, int worths, int... questions) {
        DUE.is(what + ": worths", x.best(-1), worths);
        for (int i = 0; i < questions.length; i++) {
            DUE.is(what + ": " + i, x.best(i), questions[i]);
        }
        for (int i : new int[] {Integer.MIN_VALUE, -2, questions.length, 5, Integer.MAX_VALUE}) {
            DUE.is(what + ": best(" + i + ")", x.best(i), NONE);
        }
    }

    private static DogVotes hungry(String text, int... questions) {
        DogVotes x = Due.parish(text);
        x.hunger(1);
        for (int k = 0; k + 2 < questions.length; k += 3) {
            x.ask(questions[k], questions[k + 1], questions[k + 2]);
        }
        return x;
    }

    private static void liverAboveNothing() {
        DUE.of("a bowl with LIVER above 0");
        order(hungry("1+1;", 0, 0, 1, 0, 9, 10), "LEFT, without LIVER", 1, 0, 1);
        order(hungry("1+1;", 1, 1, 1, 0, 9, 10), "LEFT, LIVER 1", 11, 0, 1);
        order(hungry("1-1;", 0, 0, 1, 5, 0, 10), "RIGHT, without LIVER", 10, 0, 1);
        order(hungry("1-1;", 1, 1, 1, 5, 0, 10), "RIGHT, LIVER 1", 10, 1, 0);
        order(hungry("1+9;", 0, 1, 5, 0, 20, 10), "LEFT, LIVER at the other bowl alone", 5, 0, 1);
        order(hungry("1-9;", 1, 0, 5, 20, 0, 10), "RIGHT, LIVER at the other bowl alone", 10, 0, 1);
        DUE.of("a FULL one: LIKING alone");
        order(hungry("1+0;", 1, 0, 1, 0, 20, 10), "LIKING 0, nobody gone", 11, 0, 1);
        order(hungry("1-1;", 1, 0, 1, 20, 0, 10), "LIKING -1", 10, 1, 0);
        order(hungry("1?;", 1, 0, 1, 0, 20, 10), "LIKING not told", 11, 0, 1);
    }

    /**
     * e is between a and b, f between c and d, g between e and f: where e and f stay at HOME, g goes where it likes.
     * By the first QUESTION g is at HOME; by the second one it decides, and how depends on whether it is FULL.
     */
    private static void whoIsAtHomeDoesNotEat() {
        DUE.of("when it has gone to a bowl: who stays at HOME does not eat");
        DogVotes left = hungry("1+9;1-1;1-3;1-9;1+0!ab;1+0!cd;1-1!ef;", 2, 0, 1, 4, 0, 10);
        DUE.is("g is at HOME", left.goes(2, 0, 6), 2);
        order(left, "LIVER at the LEFT", 10, 0, 1);
        DogVotes right = hungry("1-9;1+1;1+3;1+9;1+0!ab;1+0!cd;1+1!ef;", 0, 2, 1, 0, 4, 10);
        DUE.is("g is at HOME", right.goes(0, 2, 6), 2);
        order(right, "LIVER at the RIGHT", 1, 1, 0);
    }

    private static void notFullAtItsBeginning() {
        DUE.of("not FULL at its beginning");
        DogVotes x = hungry("1-1;", 5, 0, 3);
        for (int k = 0; k < 3; k++) {
            DUE.is("worths, " + k, x.best(-1), 3);
            DUE.is("a VOTE has no FULL ones, " + k, x.vote(5, 0, 2), 0);
            DUE.is("a LET OUT neither, " + k, x.letOut(5, 0, -1), 1);
        }
        x.ask(5, 0, 4);
        order(x, "begun anew", 4, 1, 0);
        x.ask(5, 0, 5);
        order(x, "begun anew again", 5, 2, 0, 1);
    }

    private static void bestOfAsMany() {
        DUE.of("BEST: worths (i = -1), the i-th QUESTION; NONE");
        int[] numbers = {0, 1, 2, 3, 4};
        for (int questions = 0; questions <= 5; questions++) {
            DogVotes x = shy(questions);
            order(x, questions + " QUESTIONS", Math.min(2, questions), java.util.Arrays.copyOf(numbers, questions));
            DogVotes nobody = new DogVotes();
            for (int k = 0; k < questions; k++) {
                nobody.ask(20, 0, 99);
            }
            order(nobody, questions + " QUESTIONS, nobody", 0, java.util.Arrays.copyOf(numbers, questions));
        }
    }

    private static void worths() {
        DUE.of("worths of those that LEFT wins are most");
        DogVotes most = Due.parish("1+9;");
        DogVotes ties = Due.parish("1+9;1-9;");
        DogVotes right = Due.parish("1-9;");
        for (int k = 0; k < 5; k++) {
            most.ask(0, 0, 99);
            ties.ask(0, 0, 99);
            right.ask(0, 0, 99);
        }
        DUE.is("all of 99", most.best(-1), 495);
        DUE.is("a TIE is not won", ties.best(-1), 0);
        DUE.is("RIGHT wins all", right.best(-1), 0);
        order(hungry("1-1;", 5, 0, 0, 5, 0, 0), "worth 0", 0, 0, 1);
        order(hungry("1-1;", 5, 0, 0, 5, 0, 1), "worth 0 and 1", 1, 1, 0);
        order(hungry("1-1;", 5, 0, 98, 5, 0, 99), "worth 98 and 99", 99, 1, 0);
    }

    private static void theFirstByNumbers() {
        DUE.of("the first by numbers");
        order(hungry("1-1;", 5, 0, 1, 5, 0, 2, 5, 0, 3, 5, 0, 4, 5, 0, 5), "the last one first", 5, 4, 0, 1, 2, 3);
        order(hungry("1-1;", 5, 0, 5, 5, 0, 5, 5, 0, 5, 5, 0, 5, 5, 0, 5), "all alike", 5, 0, 1, 2, 3, 4);
        order(hungry("1-1;", 5, 0, 1, 5, 0, 7, 5, 0, 7), "two alike", 7, 1, 0, 2);
        order(hungry("1-1;", 0, 5, 9, 0, 0, 8, 5, 0, 7), "those that do not feed before it", 7, 1, 2, 0);
    }

    private static void nightNumbers() {
        DUE.of("a seed (0 to 9999), of n VOTES (1 to 60)");
        DogVotes x = Due.parish("1+9;");
        int[] seeds = {-1, 0, 9999, 10000};
        int[] ns = {0, 1, 60, 61};
        for (int seed : seeds) {
            for (int n : ns) {
                for (int what = -1; what <= 3; what++) {
                    boolean are = seed >= 0 && seed <= 9999 && n >= 1 && n <= 60 && what >= 0 && what <= 2;
                    DUE.is("night(" + seed + ", " + n + ", " + what + ")", x.night(seed, n, what), are ? (what == 0 ? n : 0) : OUTSIDE);
                }
            }
        }
    }

    /** One DOG: l and r of the first VOTE are found by which LIKINGS bring it LEFT. */
    private static void nightByEverySeed() {
        DUE.of("x becomes (75 x and 74) left over by 65537; l is x left over by 10, r x by 10 left over by 10");
        // 75 * 872 and 74 is 65474, 63 below; 75 * 873 and 74 is 65549, 12 above.
        firstOf(872, 4, 7);
        firstOf(873, 2, 1);
        firstOf(0, 4, 7);
        firstOf(9999, 2, 9);
        // The greatest x that a seed leads to is 65529, the least but 0 and 1 is 2.
        firstOf(9611, 9, 2);
        firstOf(5242, 2, 0);
        for (int part = 0; part < 25; part++) {
            DogVotes x = Due.parish("1+1;");
            for (int seed = 400 * part; seed < 400 * part + 400; seed++) {
                long next = (75L * seed + 74L) % 65537L;
                boolean left = 1 + next % 10 - next / 10 % 10 >= 0;
                DUE.is("night(" + seed + ", 1, 0)", x.night(seed, 1, 0), left ? 1 : 0);
            }
        }
    }

    private static void firstOf(int seed, int l, int r) {
        for (int liking = -9; liking <= 9; liking++) {
            DogVotes x = Due.parish("1" + (liking < 0 ? "-" : "+") + Math.abs(liking) + ";");
            DUE.is("night(" + seed + ", 1, 0) of LIKING " + liking, x.night(seed, 1, 0), liking + l - r >= 0 ? 1 : 0);
        }
    }

    private static void nightsAddUp() {
        DUE.of("how many LEFT wins (0), RIGHT (1), TIES (2)");
        int[] seeds = {0, 0, 0, 0, 9999, 9999, 9999, 9999};
        int[] ns = {1, 2, 59, 60, 1, 2, 59, 60};
        int[] lefts = {0, 1, 32, 32, 0, 0, 27, 27};
        int[] ties = {0, 0, 6, 6, 0, 0, 5, 5};
        DogVotes likesLess = Due.parish("1-1;");
        DogVotes between = Due.parish("1+0;1-1;");
        for (int k = 0; k < seeds.length; k++) {
            String night = "night(" + seeds[k] + ", " + ns[k];
            DUE.is(night + ", 0)", likesLess.night(seeds[k], ns[k], 0), lefts[k]);
            DUE.is(night + ", 1)", likesLess.night(seeds[k], ns[k], 1), ns[k] - lefts[k]);
            DUE.is(night + ", 2)", likesLess.night(seeds[k], ns[k], 2), 0);
            DUE.is(night + ", 0) where as much LIVER is a TIE", between.night(seeds[k], ns[k], 0), lefts[k]);
            DUE.is(night + ", 2) where as much LIVER is a TIE", between.night(seeds[k], ns[k], 2), ties[k]);
            DUE.is(night + ", 1) where as much LIVER is a TIE", between.night(seeds[k], ns[k], 1), ns[k] - lefts[k] - ties[k]);
            DUE.is(night + ", 2) of nobody", new DogVotes().night(seeds[k], ns[k], 2), ns[k]);
        }
    }

    private static void nobodyIsFullByNight() {
        DUE.of("nobody is FULL");
        DogVotes x = hungry("1-1;", 5, 0, 1);
        DUE.is("worths", x.best(-1), 1);
        DUE.is("a NIGHT of 60", x.night(0, 60, 0), 32);
        DUE.is("worths are as before", x.best(-1), 1);
    }

    private static DogVotes busy() {
        DogVotes x = Due.parish("3+2!bg;2?;1-9;4+0;");
        x.hunger(7);
        x.heir(0, 1);
        x.heir(1, 0);
        x.heir(2, 3);
        x.dies(2);
        x.counted(0, 3, 2);
        x.ask(0, 5, 50);
        x.ask(9, 0, 40);
        return x;
    }

    private static void images() {
        DUE.of("All but the PAD is kept in an IMAGE (0, 1): 1; It is as it was when it was kept: 1");
        String as = Portrait.of(withImage(busy(), 0));
        for (int n = 0; n <= 1; n++) {
            DogVotes x = withImage(busy(), n);
            Due.write(x, "1?;9+9;");
            x.roll();
            x.heir(0, 1);
            x.counted(1, 1, 1);
            x.counted(2, 2, 2);
            x.drop();
            x.ask(1, 1, 1);
            x.hunger(9);
            x.dies(1);
            DUE.is("restore", x.restore(n), 1);
            DUE.is("HALVES", x.dog(3, 0), 5);
            DUE.is("HUNGER", x.told(2), 7);
            if (n == 0) {
                DUE.holds("all of it", Portrait.of(x).equals(as));
            }
        }
        DUE.of("It is as it was: each of what is kept");
        changedAndBack("heir", 0);
        changedAndBack("dies", 1);
        changedAndBack("counted", 2);
        changedAndBack("forget", 3);
        changedAndBack("ask", 4);
        changedAndBack("drop", 5);
        changedAndBack("hunger", 6);
        changedAndBack("roll", 7);
    }

    private static DogVotes withImage(DogVotes x, int n) {
        DUE.is("image(" + n + ")", x.image(n), 1);
        return x;
    }

    private static void changedAndBack(String name, int change) {
        DogVotes x = withImage(busy(), 0);
        x.fits(-1);
        x.best(-1);
        x.letOut(0, 0, -1);
        switch (change) {
            case 0: x.heir(0, 3); break;
            case 1: x.dies(0); break;
            case 2: x.counted(0, 0, 0); break;
            case 3: x.forget(); break;
            case 4: x.ask(0, 0, 99); break;
            case 5: x.drop(); break;
            case 6: x.hunger(1); break;
            default: x.roll(); break;
        }
        x.fits(-1);
        x.best(-1);
        x.letOut(0, 0, -1);
        DUE.is("restore after " + name, x.restore(0), 1);
        DUE.holds("all is back after " + name, Portrait.of(x).equals(Portrait.of(withImage(busy(), 0))));
    }

    private static void imageOfNothing() {
        DUE.of("restore: STATE: it was not");
        DogVotes x = busy();
        DUE.is("restore(0)", x.restore(0), STATE);
        DUE.is("restore(1)", x.restore(1), STATE);
        DUE.is("image(1)", x.image(1), 1);
        DUE.is("restore(0)", x.restore(0), STATE);
        DUE.is("restore(1)", x.restore(1), 1);
        DUE.is("image(0)", x.image(0), 1);
        DUE.is("restore(0)", x.restore(0), 1);
        for (int n = -2; n <= 3; n++) {
            DUE.is("image(" + n + ")", x.image(n), n == 0 || n == 1 ? 1 : OUTSIDE);
            DUE.is("restore(" + n + ")", x.restore(n), n == 0 || n == 1 ? 1 : OUTSIDE);
        }
        DUE.of("an IMAGE of a new object");
        DogVotes y = new DogVotes();
        y.image(0);
        Due.write(y, "3?;");
        y.roll();
        y.hunger(9);
        y.ask(1, 1, 1);
        y.counted(1, 1, 1);
        DUE.is("restore(0)", y.restore(0), 1);
        for (int what = 0; what <= 5; what++) {
            DUE.is("told(" + what + ")", y.told(what), what == 2 ? 2 : 0);
        }
        DUE.is("told(10)", y.told(10), OUTSIDE);
    }

    private static void imagesAreTwo() {
        DUE.of("an IMAGE (0, 1)");
        DogVotes x = Due.parish("3+0;");
        x.hunger(3);
        x.image(0);
        x.hunger(4);
        x.image(1);
        x.hunger(5);
        DUE.is("restore(0)", x.restore(0), 1);
        DUE.is("HUNGER", x.told(2), 3);
        DUE.is("restore(1)", x.restore(1), 1);
        DUE.is("HUNGER", x.told(2), 4);
        x.dies(0);
        x.hunger(6);
        DUE.is("what follows does not change an IMAGE: restore(1)", x.restore(1), 1);
        DUE.is("HUNGER", x.told(2), 4);
        DUE.is("HALVES", x.dog(0, 0), 3);
        x.hunger(7);
        x.image(1);
        x.hunger(8);
        DUE.is("the later IMAGE: restore(1)", x.restore(1), 1);
        DUE.is("HUNGER", x.told(2), 7);
        DUE.is("the other IMAGE: restore(0)", x.restore(0), 1);
        DUE.is("HUNGER", x.told(2), 3);
    }

    private static void imageLeavesThePad() {
        DUE.of("All but the PAD");
        DogVotes x = Due.parish("3+0;");
        Due.write(x, "5+1;");
        x.image(0);
        Due.write(x, "6-1;");
        DUE.is("restore(0)", x.restore(0), 1);
        DUE.is("signs", x.told(0), 8);
        DUE.is("roll of them", x.roll(), 2);
        DUE.is("restore(0)", x.restore(0), 1);
        DUE.is("signs are not brought back", x.told(0), 0);
        DUE.is("HALVES", x.dog(0, 0), 3);
        DogVotes y = new DogVotes();
        y.image(1);
        Due.write(y, "0".repeat(60));
        DUE.is("restore(1)", y.restore(1), 1);
        DUE.is("a full PAD", y.told(0), 60);
        DUE.is("its FAULT", y.fault(), 0);
    }

    private static void told() {
        DUE.of("0 signs, 1 DOGS, 2 HUNGER, 3 COUNTS, 4 QUESTIONS, 5 DOGS whose LIKING is not told");
        DogVotes x = Due.parish("1?;2+0;3?;4+0;5+0;6+0;");
        Due.write(x, "1234567");
        x.hunger(8);
        for (int k = 0; k < 4; k++) {
            x.counted(k, k, k);
        }
        for (int k = 0; k < 3; k++) {
            x.ask(k, k, k);
        }
        int[] wants = {OUTSIDE, 7, 6, 8, 4, 3, 2, OUTSIDE};
        for (int what = -1; what <= 6; what++) {
            DUE.is("told(" + what + ")", x.told(what), wants[what + 1]);
        }
        DUE.of("10 to 16 HEIRS of DOGS (NONE). OUTSIDE (also of DOGS that there are not)");
        x.heir(0, 5);
        x.heir(5, 0);
        int[] heirs = {OUTSIDE, 5, NONE, NONE, NONE, NONE, 0, OUTSIDE, OUTSIDE};
        for (int what = 9; what <= 17; what++) {
            DUE.is("told(" + what + ")", x.told(what), heirs[what - 9]);
        }
        DUE.of("5 DOGS whose LIKING is not told: dead ones, too");
        x.dies(0);
        DUE.is("told(5)", x.told(5), 2);
    }
}
