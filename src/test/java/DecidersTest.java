/** Promises 15 and 16. */
public final class DecidersTest {
    private static final Due DUE = new Due("DecidersTest");

    public static void main(String[] args) {
        swings();
        turn();
        theDead();
        sums();
        refused();
        DUE.end();
    }

    private static void swings() {
        swings("1+9;", 1);
        swings("3+2;2-1;1+0!ab;", 3, 1, 1);
        swings("1+0;1+0;1+0;", 2, 2, 2);
        swings("1+0;1+0;", 1, 1);
        swings("9+0;1+0;1+0;", 4, 0, 0);
        swings("2+0;1+0;1+0;", 3, 1, 1);
        swings("1?;1?;1?;1+0;1+0;1+0;1+0;", 20, 20, 20, 20, 20, 20, 20);
    }

    private static void swings(String text, int... wants) {
        DogVotes x = Due.parish(text);
        for (int dog = 0; dog < wants.length; dog++) {
            DUE.is(text + " swings(" + dog + ")", x.swings(dog), wants[dog]);
        }
    }

    private static void turn() {
        turn("1+9;", 0, 1, 1);
        turn("3+2;2-1;1+0!ab;", 0, 2, 3);
        turn("3+2;2-1;1+0!ab;", 1, 1, 6);
        turn("1+0;1+0;", 0, 1, 2);
        turn("9+0;1+0;1+0;", 0, 1, 1);
        turn("9+0;1+0;1+0;", 1, 0, 1);
        turn("1?;1?;1?;1+0;1+0;1+0;1+0;", 6, 1, 7);
        turn("1+0;1+0;1+0;1+0;1+0;1+0;", 3, 1, 6);
        turn("5+0;1+0;1+0;1+0;1+0;1+0;1+0;", 0, 5, 7);
        turn("4+0;3+0;2+0;1+0;", 0, 5, 12);
        turn("4+0;3+0;2+0;1+0;", 1, 1, 4);
        turn("4+0;3+0;2+0;1+0;", 3, 1, 12);
    }

    private static void turn(String text, int dog, int upper, int lower) {
        DogVotes x = Due.parish(text);
        DUE.is(text + " turn(" + dog + ", 0)", x.turn(dog, 0), upper);
        DUE.is(text + " turn(" + dog + ", 1)", x.turn(dog, 1), lower);
    }

    private static void theDead() {
        DogVotes x = Due.parish("3+2;2-1;1+0;");
        x.dies(0);
        DUE.is("SWINGS of the dead", x.swings(0), 0);
        DUE.is("TURNS of the dead, upper", x.turn(0, 0), 0);
        DUE.is("TURNS of the dead, lower", x.turn(0, 1), 1);
        DUE.is("the dead go nowhere", x.swings(1), 2);
        DUE.is("the dead do not come", x.turn(1, 0), 1);
        DUE.is("the dead do not come, lower", x.turn(1, 1), 1);
        x.dies(1);
        x.dies(2);
        DUE.is("all are dead", x.turn(2, 0), 0);
        DUE.is("all are dead, lower", x.turn(2, 1), 1);
    }

    /** In each order there is just one by whom HALVES become more than half. */
    private static void sums() {
        DogVotes x = Due.parish("9+0;8+0;3-5;2+0;7+1!a;1+0;4-3;");
        long sum = 0;
        for (int dog = 0; dog < 7; dog++) {
            sum += x.turn(dog, 0) * (5040 / x.turn(dog, 1));
        }
        DUE.is("TURNS of all", sum, 5040);
    }

    private static void refused() {
        DogVotes x = Due.parish("3+2;2-1;");
        DUE.is("swings(2)", x.swings(2), DogVotes.UNKNOWN);
        DUE.is("swings(-1)", x.swings(-1), DogVotes.UNKNOWN);
        DUE.is("turn(2, 0)", x.turn(2, 0), DogVotes.LOST - 1);
        DUE.is("turn(-1, 0)", x.turn(-1, 0), DogVotes.LOST - 1);
        DUE.is("turn(2, 2)", x.turn(2, 2), DogVotes.LOST - 1);
        DUE.is("turn(0, 2)", x.turn(0, 2), DogVotes.LOST - 2);
        DUE.is("turn(0, -1)", x.turn(0, -1), DogVotes.LOST - 2);
    }
}
