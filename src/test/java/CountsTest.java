/** Promises 17 to 20. */
public final class CountsTest {
    private static final Due DUE = new Due("CountsTest");

    public static void main(String[] args) {
        counted();
        forget();
        fits();
        fitsOfTwo();
        leastIsNotInTheFirst();
        fitsWithAllTold();
        theDead();
        liking();
        DUE.end();
    }

    private static void counted() {
        DogVotes x = new DogVotes();
        DUE.is("counted(21, 0, 0)", x.counted(21, 0, 0), DogVotes.OUTSIDE);
        DUE.is("counted(-1, 0, 0)", x.counted(-1, 0, 0), DogVotes.OUTSIDE);
        DUE.is("counted(0, 21, 0)", x.counted(0, 21, 0), DogVotes.OUTSIDE);
        DUE.is("counted(0, -1, 0)", x.counted(0, -1, 0), DogVotes.OUTSIDE);
        DUE.is("counted(0, 0, 64)", x.counted(0, 0, 64), DogVotes.OUTSIDE);
        DUE.is("counted(0, 0, -1)", x.counted(0, 0, -1), DogVotes.OUTSIDE);
        DUE.is("told(3) of refused ones", x.told(3), 0);
        DUE.is("first", x.counted(0, 0, 0), 1);
        DUE.is("second", x.counted(20, 20, 63), 2);
        for (int k = 3; k <= 6; k++) {
            DUE.is("more", x.counted(k, k, k), k);
        }
        DUE.is("seventh", x.counted(0, 0, 0), DogVotes.FULL);
        DUE.is("seventh, OUTSIDE", x.counted(0, 0, 64), DogVotes.OUTSIDE);
        DUE.is("told(3)", x.told(3), 6);
    }

    private static void forget() {
        DogVotes x = Due.parish("3?;");
        DUE.is("forget nothing", x.forget(), 0);
        x.counted(0, 0, 3);
        x.counted(0, 5, 3);
        DUE.is("fits of two", x.fits(-1), 5);
        DUE.is("forget two", x.forget(), 2);
        DUE.is("told(3)", x.told(3), 0);
        DUE.is("all fit again", x.fits(-1), 19);
        DUE.is("a COUNT more", x.counted(0, 0, 0), 1);
        DUE.is("it holds alone", x.fits(-1), 9);
    }

    private static void fits() {
        DogVotes x = Due.parish("3?;2-1;");
        DUE.is("no COUNTS", x.fits(-1), 19);
        DUE.is("first", x.fits(0), 0);
        DUE.is("fits(1)", x.fits(1), DogVotes.NONE);
        DUE.is("fits(-2)", x.fits(-2), DogVotes.NONE);
        DUE.is("fits(most)", x.fits(Integer.MAX_VALUE), DogVotes.NONE);
        x.counted(0, 0, 3);
        DUE.is("0 and more", x.fits(-1), 10);
        DUE.is("0 and 9", x.fits(0), 9);
        x.counted(0, 3, 0);
        DUE.is("0 to 2", x.fits(-1), 3);
        x.counted(20, 0, 4);
        DUE.is("nothing fits", x.fits(-1), 0);
        DUE.is("no first", x.fits(0), DogVotes.NONE);
    }

    /** b FEARS a; both are not told. */
    private static void fitsOfTwo() {
        DogVotes x = Due.parish("3?;5+1;2?!a;");
        DUE.is("no COUNTS", x.fits(-1), 361);
        x.counted(0, 0, 7);
        DUE.is("a RIGHT, c LEFT", x.fits(-1), 9 * 19);
        DUE.is("a least", x.fits(0), 0);
        DUE.is("c least", x.fits(1), 0);
        DUE.is("fits(2)", x.fits(2), DogVotes.NONE);
        x.forget();
        x.counted(0, 0, 8);
        x.counted(0, 5, 3);
        DUE.is("a LEFT both times, c RIGHT", x.fits(-1), 5 * 19);
        DUE.is("a is 5", x.fits(0), 14);
        DUE.is("c least", x.fits(1), 0);
        x.counted(0, 8, 2);
        DUE.is("a is 5 to 7, c shuns it", x.fits(-1), 3 * 19);
        x.forget();
        x.counted(0, 2, 2);
        x.counted(5, 5, 8);
        DUE.is("0 or 1", x.fits(-1), 2 * 19);
        DUE.is("a least", x.liking(0, 0), 9);
        DUE.is("a greatest", x.liking(0, 1), 10);
        DUE.is("c least", x.liking(2, 0), 0);
        DUE.is("c greatest", x.liking(2, 1), 18);
    }

    /** One is LEFT, the other RIGHT: where a can be less, b must be more. */
    private static void leastIsNotInTheFirst() {
        DogVotes x = Due.parish("2?;2?;");
        x.counted(0, 0, 2);
        DUE.is("one of both", x.fits(-1), 9 * 9 + 10 * 9);
        DUE.is("a in the first", x.fits(0), 0);
        DUE.is("b in the first", x.fits(1), 10);
        DUE.is("b least", x.liking(1, 0), 0);
        DUE.is("b greatest", x.liking(1, 1), 18);
        Due.write(x, "2?;");
        x.roll();
        DUE.is("of a new ROLL", x.fits(-1), 19);
    }

    private static void fitsWithAllTold() {
        DogVotes x = Due.parish("3+2;");
        DUE.is("one way: to write nothing", x.fits(-1), 1);
        DUE.is("no first", x.fits(0), DogVotes.NONE);
        x.counted(0, 0, 3);
        DUE.is("it holds", x.fits(-1), 1);
        x.counted(0, 0, 2);
        DUE.is("it does not", x.fits(-1), 0);
        DogVotes y = new DogVotes();
        y.counted(3, 3, 0);
        DUE.is("nobody, 0", y.fits(-1), 1);
        y.counted(3, 3, 1);
        DUE.is("nobody, 1", y.fits(-1), 0);
    }

    private static void theDead() {
        DogVotes x = Due.parish("3?;2?;");
        x.counted(0, 0, 2);
        DUE.is("a RIGHT, b LEFT", x.fits(-1), 9 * 9);
        x.dies(0);
        DUE.is("a dead one's LIKING is written, too", x.fits(-1), 19 * 10);
        DUE.is("a least", x.fits(0), 0);
        DUE.is("b least", x.fits(1), 9);
        DUE.is("told(5)", x.told(5), 2);
        DUE.is("a greatest", x.liking(0, 1), 18);
    }

    private static void liking() {
        DogVotes x = Due.parish("3?;2-1;4?;");
        DUE.is("least of all", x.liking(0, 0), 0);
        DUE.is("greatest of all", x.liking(0, 1), 18);
        DUE.is("told LIKING", x.liking(1, 0), DogVotes.UNKNOWN);
        DUE.is("told LIKING, OUTSIDE", x.liking(1, 2), DogVotes.UNKNOWN);
        DUE.is("liking(3, 0)", x.liking(3, 0), DogVotes.UNKNOWN);
        DUE.is("liking(-1, 0)", x.liking(-1, 0), DogVotes.UNKNOWN);
        DUE.is("liking(0, 2)", x.liking(0, 2), DogVotes.OUTSIDE);
        DUE.is("liking(0, -1)", x.liking(0, -1), DogVotes.OUTSIDE);
        x.counted(0, 4, 4);
        DUE.is("c is 4 or more", x.liking(2, 0), 14);
        DUE.is("c at most", x.liking(2, 1), 18);
        DUE.is("a at most", x.liking(0, 1), 12);
        DUE.is("a at least", x.liking(0, 0), 0);
        x.counted(0, 0, 63);
        DUE.is("nothing fits", x.liking(0, 0), DogVotes.STATE);
        DUE.is("nothing fits, OUTSIDE", x.liking(0, 2), DogVotes.OUTSIDE);
        DUE.is("nothing fits, UNKNOWN", x.liking(1, 0), DogVotes.UNKNOWN);
        DUE.is("a VOTE has 0", x.vote(0, 0, 0), 7);
    }
}
