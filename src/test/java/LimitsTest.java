/** Calls that search long, and every call with numbers that are not as told, on every kind of state. */
public final class LimitsTest {
    private static final Due DUE = new Due("LimitsTest");
    private static final int[] EDGES = {Integer.MIN_VALUE, Integer.MIN_VALUE + 1, -1000, -2, -1, 0, 1, 6, 7, 31, 32, 100, Integer.MAX_VALUE};
    private static final int BUSY_CALLS = 39;
    private static final String[] ROLLS = {"", "1?;", "9+9!bc;9-9!ac;9?!ab;", "1?;1?;1?;1+0;1+0;1+0;1+0;", "9-9!b;9-9!c;9?!d;9?!e;9?!f;9-9!g;9-9;"};

    public static void main(String[] args) {
        for (String roll : ROLLS) {
            for (int one : EDGES) {
                wrongNumbers(Due.parish(roll), one);
            }
        }
        longSearches();
        theLastCall();
        DUE.end();
    }

    /** Nothing is thrown; what the answers are is tested elsewhere. */
    private static void wrongNumbers(DogVotes x, int one) {
        x.dies(1);
        x.ask(3, 4, 5);
        x.counted(3, 4, 9);
        x.say(one);
        x.dies(one);
        x.won(one);
        x.rests(one);
        x.swings(one);
        x.fits(one);
        x.hunger(one);
        x.best(one);
        x.image(one);
        x.restore(one);
        x.told(one);
        for (int two : EDGES) {
            x.dog(one, two);
            x.heir(one, two);
            x.stolen(one, two);
            x.turn(one, two);
            x.liking(one, two);
            for (int three : EDGES) {
                threeNumbers(x, one, two, three);
            }
        }
        DUE.holds("all calls end", true);
    }

    private static void threeNumbers(DogVotes x, int one, int two, int three) {
        x.goes(one, two, three);
        x.vote(one, two, three);
        x.letOut(one, two, three);
        x.counted(one, two, three);
        x.ask(one, two, three);
        x.night(one, two, three);
    }

    private static void longSearches() {
        DogVotes x = Due.parish("9-9!b;9-9!c;9?!d;9?!e;9?!f;9-9!g;9-9;");
        for (int k = 0; k < 6; k++) {
            x.counted(k, k, x.vote(k, k, 0));
        }
        for (int k = 0; k < 5; k++) {
            x.ask(k, 5 - k, 10);
        }
        int held = x.vote(0, 0, 0);
        for (int call = 0; call < 100; call++) {
            x.hunger(call % 9 + 1);
            DUE.is("letOut is found anew", x.letOut(call % 21, 20, -1) >= 0 ? 1 : 0, 1);
            x.hunger(call % 9 + 1);
            DUE.is("fits is found anew", x.fits(-1) > 0 ? 1 : 0, 1);
            DUE.is("best is found anew", x.best(-1) >= 0 ? 1 : 0, 1);
        }
        DUE.is("the VOTE is as it was", x.vote(0, 0, 0), held);
    }

    /** A call, with what it answers. */
    private interface Call {
        long on(DogVotes x);
    }

    /** An object is used for at most 512 calls: the 512th answers as it would have without those between. */
    private static void theLastCall() {
        DUE.of("An object is used for at most 512 calls after it has been made");
        last("say", x -> x.say('1'));
        last("wipe", DogVotes::wipe);
        last("fault", DogVotes::fault);
        last("roll", DogVotes::roll);
        last("dog", x -> x.dog(2, 1));
        last("heir", x -> x.heir(0, 2));
        last("dies", x -> x.dies(0));
        last("goes", x -> x.goes(3, 4, 1));
        last("vote", x -> x.vote(3, 4, 0));
        last("stolen", x -> x.stolen(3, 4));
        last("won", x -> x.won(9));
        last("rests", x -> x.rests(-1));
        last("letOut", x -> x.letOut(3, 4, 0));
        last("swings", x -> x.swings(1));
        last("turn", x -> x.turn(1, 1));
        last("counted", x -> x.counted(3, 4, 5));
        last("forget", DogVotes::forget);
        last("fits", x -> x.fits(-1));
        last("liking", x -> x.liking(1, 0));
        last("ask", x -> x.ask(3, 4, 5));
        last("drop", DogVotes::drop);
        last("hunger", x -> x.hunger(9));
        last("best", x -> x.best(-1));
        last("night", x -> x.night(5, 60, 0));
        last("image", x -> x.image(0));
        last("restore", x -> x.restore(1));
        last("told", x -> x.told(10));
    }

    private static void last(String name, Call call) {
        DogVotes early = busy();
        DogVotes late = busy();
        for (int made = BUSY_CALLS; made < 511; made++) {
            between(late, made);
        }
        DUE.is(name + " as the 512th call", call.on(late), call.on(early));
    }

    /** 26 signs, and 13 calls more. */
    private static DogVotes busy() {
        DogVotes x = Due.parish("3+2!b;2?;4-1!ag;1?;");
        x.heir(0, 1);
        x.heir(2, 0);
        x.image(1);
        x.dies(2);
        x.counted(0, 0, 10);
        x.counted(0, 3, 3);
        x.ask(3, 0, 40);
        x.ask(0, 5, 50);
        x.hunger(1);
        Due.write(x, "5+5;1?;");
        x.fault();
        x.told(0);
        x.best(-1);
        return x;
    }

    /** Calls after which all is as it was: some only ask, some set what is set, some are refused. */
    private static void between(DogVotes x, int made) {
        switch (made % 6) {
            case 0: x.letOut(made % 21, made / 21 % 21, made % 4); break;
            case 1: x.fits(made % 3); break;
            case 2: x.heir(0, 1); break;
            case 3: x.hunger(1); break;
            case 4: x.rests(made); break;
            default: x.counted(21, made, made); break;
        }
    }
}
