/** The edges of counts: "Terms" 4, promises 17 to 20, sentence by sentence. */
public final class CountEdgesTest {
    private static final Due DUE = new Due("CountEdgesTest");
    private static final int NONE = DogVotes.NONE, UNKNOWN = DogVotes.UNKNOWN, OUTSIDE = DogVotes.OUTSIDE;
    private static final int STATE = DogVotes.STATE, FULL = DogVotes.FULL;

    public static void main(String[] args) {
        sixCounts();
        numbersOfCounts();
        mostHalves();
        forget();
        waysWithoutCounts();
        leastAndGreatestLikings();
        allCountsHold();
        theFirst();
        likings();
        nothingFits();
        countsOfTheTold();
        fitsByTheRollAsItIs();
        DUE.end();
    }

    private static void sixCounts() {
        DUE.of("COUNTS, 6 at most: how many; FULL");
        DogVotes x = Due.parish("3?;");
        for (int k = 1; k <= 6; k++) {
            DUE.is("told(3)", x.told(3), k - 1);
            DUE.is("COUNT " + k, x.counted(0, k + 1, 0), k);
        }
        DUE.is("COUNT 7", x.counted(9, 0, 0), FULL);
        DUE.is("told(3)", x.told(3), 6);
        DUE.is("the seventh does not count", x.fits(-1), 11);
        DUE.is("the first does", x.liking(0, 1), 10);
        DUE.is("forget", x.forget(), 6);
        DUE.is("the first again", x.counted(0, 0, 3), 1);
    }

    private static void numbersOfCounts() {
        DUE.of("OUTSIDE: l, r, HALVES 0 to 63");
        int[] livers = {-1, 0, 20, 21};
        int[] halves = {-1, 0, 63, 64};
        for (int l : livers) {
            for (int r : livers) {
                for (int k : halves) {
                    DogVotes x = new DogVotes();
                    boolean are = l >= 0 && l <= 20 && r >= 0 && r <= 20 && k >= 0 && k <= 63;
                    DUE.is("counted(" + l + ", " + r + ", " + k + ")", x.counted(l, r, k), are ? 1 : OUTSIDE);
                    DUE.is("told(3)", x.told(3), are ? 1 : 0);
                }
            }
        }
    }

    private static void mostHalves() {
        DUE.of("l, r and HALVES that were LEFT: 63 at most");
        DogVotes x = Due.parish("9?;9?;9?;9+9;9+9;9+9;9+9;");
        x.counted(20, 9, 63);
        DUE.is("all LEFT", x.fits(-1), 19 * 19 * 19);
        x.counted(0, 18, 63);
        DUE.is("nobody can be LEFT", x.fits(-1), 0);
        x.forget();
        x.counted(0, 20, 0);
        DUE.is("none LEFT", x.fits(-1), 19 * 19 * 19);
        DUE.of("LIVER at its edges counts");
        DogVotes y = Due.parish("1?;");
        y.counted(20, 20, 1);
        DUE.is("20, 20", y.fits(-1), 10);
        y.counted(0, 0, 1);
        DUE.is("0, 0", y.fits(-1), 10);
        y.counted(20, 11, 1);
        DUE.is("20, 11", y.fits(-1), 10);
        y.counted(11, 20, 0);
        DUE.is("11, 20: all but 9", y.fits(-1), 9);
    }

    private static void forget() {
        DUE.of("COUNTS go: how many there were");
        for (int counts = 0; counts <= 6; counts++) {
            DogVotes x = Due.parish("3?;");
            for (int k = 0; k < counts; k++) {
                x.counted(0, 0, 3);
            }
            DUE.is("fits", x.fits(-1), counts == 0 ? 19 : 10);
            DUE.is("forget", x.forget(), counts);
            DUE.is("told(3)", x.told(3), 0);
            DUE.is("fits of none", x.fits(-1), 19);
            DUE.is("forget again", x.forget(), 0);
            DUE.is("the ROLL stands", x.told(1), 1);
        }
    }

    /** Where there are no COUNTS, all that can be written fits. */
    private static void waysWithoutCounts() {
        DUE.of("FITS: how many ways (i = -1), LIKING and 9 of the i-th not told in the first; NONE");
        int ways = 1;
        for (int untold = 0; untold <= 3; untold++) {
            DogVotes x = Due.parish("1?;".repeat(untold) + "1+5;1-5;");
            DUE.is("ways of " + untold, x.fits(-1), ways);
            for (int i = -3; i <= 8; i++) {
                boolean is = i >= 0 && i < untold;
                DUE.is("fits(" + i + ") of " + untold, i == -1 ? 0 : x.fits(i), i == -1 || is ? 0 : NONE);
            }
            DUE.is("fits(least)", x.fits(Integer.MIN_VALUE), NONE);
            DUE.is("fits(most)", x.fits(Integer.MAX_VALUE), NONE);
            ways *= 19;
        }
        DUE.is("nobody: one way", new DogVotes().fits(-1), 1);
        DUE.is("nobody: no first", new DogVotes().fits(0), NONE);
    }

    private static void leastAndGreatestLikings() {
        DUE.of("ways to write a LIKING (-9 to 9)");
        one(0, 9, 1, 1, 18, 18);
        one(0, 10, 1, 0, 0, 0);
        one(0, 8, 1, 2, 17, 18);
        one(8, 0, 0, 1, 0, 0);
        one(9, 0, 0, 0, 0, 0);
        one(7, 0, 0, 2, 0, 1);
        one(0, 0, 1, 10, 9, 18);
        one(0, 0, 0, 9, 0, 8);
        one(9, 0, 1, 19, 0, 18);
        one(0, 10, 0, 19, 0, 18);
    }

    /** One DOG of one HALF; with one COUNT. */
    private static void one(int l, int r, int halves, int ways, int least, int greatest) {
        DogVotes x = Due.parish("1?;");
        x.counted(l, r, halves);
        String count = "by " + l + ", " + r + ", " + halves;
        DUE.is(count + ": ways", x.fits(-1), ways);
        DUE.is(count + ": first", x.fits(0), ways == 0 ? NONE : least);
        DUE.is(count + ": least", x.liking(0, 0), ways == 0 ? STATE : least);
        DUE.is(count + ": greatest", x.liking(0, 1), ways == 0 ? STATE : greatest);
        DUE.is(count + ": behind", x.fits(1), NONE);
    }

    private static void allCountsHold() {
        DUE.of("by which all COUNTS hold");
        DogVotes x = Due.parish("1?;");
        for (int k = 0; k < 5; k++) {
            x.counted(0, 9 - k, 0);
            DUE.is("ways, less than " + (9 - k), x.fits(-1), 18 - k);
        }
        x.counted(0, 5, 1);
        DUE.is("the sixth does not hold with the fifth", x.fits(-1), 0);
        DogVotes y = Due.parish("1?;");
        for (int k = 0; k < 5; k++) {
            y.counted(0, k, 1);
            DUE.is("ways, " + k + " or more", y.fits(-1), 10 - k);
        }
        y.counted(0, 5, 0);
        DUE.is("just 4", y.fits(-1), 1);
        DUE.is("first", y.fits(0), 13);
    }

    private static void theFirst() {
        DUE.of("the first (the first such DOG's from -9 on, and so on)");
        DogVotes x = Due.parish("1?;5+9;2?;5-9;4?;");
        x.counted(0, 0, 12);
        DUE.is("all three LEFT", x.fits(-1), 1000);
        for (int i = 0; i < 3; i++) {
            DUE.is("fits(" + i + ")", x.fits(i), 9);
        }
        x.forget();
        x.counted(0, 0, 8);
        DUE.is("the first and the second one LEFT", x.fits(-1), 10 * 10 * 9);
        DUE.is("fits(0)", x.fits(0), 9);
        DUE.is("fits(1)", x.fits(1), 9);
        DUE.is("fits(2)", x.fits(2), 0);
        DUE.is("fits(3)", x.fits(3), NONE);
        DUE.of("the first is the least by its first DOG, not by its last");
        DogVotes y = Due.parish("2?;2?;");
        y.counted(0, 0, 2);
        DUE.is("one of both", y.fits(-1), 10 * 9 + 9 * 9);
        DUE.is("fits(0)", y.fits(0), 0);
        DUE.is("fits(1)", y.fits(1), 10);
    }

    private static void likings() {
        DUE.of("The least (what = 0), the greatest LIKING (1) and 9 that a DOG can have");
        DogVotes x = Due.parish("1+1;2?;3?;4-1;");
        x.counted(0, 4, 3);
        x.counted(0, 5, 3);
        // At 0 it is RIGHT, where a and b have gone: it is 6 or more, and 7 or less.
        x.counted(0, 7, 0);
        int[] leasts = {UNKNOWN, 0, 15, UNKNOWN};
        int[] greatests = {UNKNOWN, 13, 16, UNKNOWN};
        for (int dog = -1; dog <= 4; dog++) {
            boolean is = dog >= 0 && dog < 4;
            DUE.is("liking(" + dog + ", 0)", x.liking(dog, 0), is ? leasts[dog] : UNKNOWN);
            DUE.is("liking(" + dog + ", 1)", x.liking(dog, 1), is ? greatests[dog] : UNKNOWN);
        }
        DUE.is("liking(1, -1)", x.liking(1, -1), OUTSIDE);
        DUE.is("liking(1, 2)", x.liking(1, 2), OUTSIDE);
        DUE.of("the least and the greatest of all ways, not of the first alone");
        DogVotes y = Due.parish("2?;2?;");
        y.counted(0, 0, 2);
        DUE.is("b least", y.liking(1, 0), 0);
        DUE.is("b greatest", y.liking(1, 1), 18);
        DUE.is("a least", y.liking(0, 0), 0);
        DUE.is("a greatest", y.liking(0, 1), 18);
    }

    private static void nothingFits() {
        DUE.of("STATE: nothing fits; NONE");
        DogVotes x = Due.parish("3?;2+1;");
        x.counted(0, 0, 4);
        DUE.is("no way", x.fits(-1), 0);
        DUE.is("no first", x.fits(0), NONE);
        DUE.is("no least", x.liking(0, 0), STATE);
        DUE.is("no greatest", x.liking(0, 1), STATE);
        DUE.is("told: UNKNOWN first", x.liking(1, 0), UNKNOWN);
        DUE.is("OUTSIDE first", x.liking(0, 2), OUTSIDE);
        x.forget();
        DUE.is("least again", x.liking(0, 0), 0);
        DUE.is("greatest again", x.liking(0, 1), 18);
    }

    private static void countsOfTheTold() {
        DUE.of("COUNTS where all LIKINGS are told: one way, or none");
        DogVotes x = Due.parish("3+1;2-1;");
        DUE.is("no COUNTS", x.fits(-1), 1);
        x.counted(0, 0, 3);
        DUE.is("as it is", x.fits(-1), 1);
        x.counted(0, 0, 5);
        DUE.is("as it is not", x.fits(-1), 0);
        DUE.is("fits(0)", x.fits(0), NONE);
        DogVotes y = new DogVotes();
        y.counted(20, 0, 0);
        DUE.is("nobody, none", y.fits(-1), 1);
        y.counted(20, 0, 1);
        DUE.is("nobody, one", y.fits(-1), 0);
    }

    private static void fitsByTheRollAsItIs() {
        DUE.of("FITS: a LIKING for each that is not told, a dead one too");
        DogVotes x = Due.parish("3?;2?;");
        x.counted(0, 0, 2);
        DUE.is("a RIGHT, b LEFT", x.fits(-1), 9 * 9);
        x.dies(0);
        DUE.is("a is dead", x.fits(-1), 19 * 10);
        DUE.is("a can be all", x.liking(0, 1), 18);
        x.dies(1);
        DUE.is("both are dead, 2 are LEFT", x.fits(-1), 0);
        x.forget();
        DUE.is("both are dead", x.fits(-1), 361);
        DUE.of("who FEARS can be LEFT though it likes RIGHT");
        DogVotes y = Due.parish("3-9;2?!a;");
        y.counted(0, 0, 2);
        DUE.is("all of b", y.fits(-1), 19);
        y.counted(0, 0, 0);
        DUE.is("none of b", y.fits(-1), 0);
    }
}
