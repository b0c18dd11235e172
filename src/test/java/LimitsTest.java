/** Calls that search long, and every call with numbers that are not as told, on every kind of state. */
public final class LimitsTest {
    private static final Due DUE = new Due("LimitsTest");
    private static final int[] EDGES = {Integer.MIN_VALUE, Integer.MIN_VALUE + 1, -1000, -2, -1, 0, 1, 6, 7, 31, 32, 100, Integer.MAX_VALUE};
    private static final String[] ROLLS = {"", "1?;", "9+9!bc;9-9!ac;9?!ab;", "1?;1?;1?;1+0;1+0;1+0;1+0;", "9-9!b;9-9!c;9?!d;9?!e;9?!f;9-9!g;9-9;"};

    public static void main(String[] args) {
        for (String roll : ROLLS) {
            for (int one : EDGES) {
                wrongNumbers(Due.parish(roll), one);
            }
        }
        longSearches();
        DUE.end();
    }

    /** Nothing is thrown; what the answers are is tested elsewhere. */
    private static void wrongNumbers(DogVotes x, int one) {
        x.dies(1);
        x.ask(3, 4, 5);
        x.counted(3, 4, 9);
        x.say(one);
        x.dies(one);
        x.won(one);
        x.rests(one);
        x.swings(one);
        x.fits(one);
        x.hunger(one);
        x.best(one);
        x.image(one);
        x.restore(one);
        x.told(one);
        for (int two : EDGES) {
            x.dog(one, two);
            x.heir(one, two);
            x.stolen(one, two);
            x.turn(one, two);
            x.liking(one, two);
            for (int three : EDGES) {
                threeNumbers(x, one, two, three);
            }
        }
        DUE.holds("all calls end", true);
    }

    private static void threeNumbers(DogVotes x, int one, int two, int three) {
        x.goes(one, two, three);
        x.vote(one, two, three);
        x.letOut(one, two, three);
        x.counted(one, two, three);
        x.ask(one, two, three);
        x.night(one, two, three);
    }

    private static void longSearches() {
        DogVotes x = Due.parish("9-9!b;9-9!c;9?!d;9?!e;9?!f;9-9!g;9-9;");
        for (int k = 0; k < 6; k++) {
            x.counted(k, k, x.vote(k, k, 0));
        }
        for (int k = 0; k < 5; k++) {
            x.ask(k, 5 - k, 10);
        }
        int held = x.vote(0, 0, 0);
        for (int call = 0; call < 100; call++) {
            x.hunger(call % 9 + 1);
            DUE.is("letOut is found anew", x.letOut(call % 21, 20, -1) >= 0 ? 1 : 0, 1);
            x.hunger(call % 9 + 1);
            DUE.is("fits is found anew", x.fits(-1) > 0 ? 1 : 0, 1);
            DUE.is("best is found anew", x.best(-1) >= 0 ? 1 : 0, 1);
        }
        DUE.is("the VOTE is as it was", x.vote(0, 0, 0), held);
    }
}
