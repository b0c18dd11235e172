/**
 * Each call that can be refused: each of its refusals, two that fit at once, and that nothing changed by it.
 * The numbers asked are the last that is refused on each side, and the least and the greatest int.
 */
public final class RefusalsTest {
    private static final Due DUE = new Due("RefusalsTest");
    private static final int MIN = Integer.MIN_VALUE, MAX = Integer.MAX_VALUE;
    private static final int UNKNOWN = -1, OUTSIDE = -2, STATE = -3, FULL = -4, NO = -5;
    private static final long LOST = -1000000000000000000L;
    private static final String SIXTY = "1+0;2-9;3?;4+5!a;5-1!ac;6?;7?!fg".repeat(2).substring(0, 60);

    /** A call, with what it answers. */
    private interface Call {
        long on(DogVotes x);
    }

    /** How an object comes to where the calls are asked of it. */
    private interface Start {
        DogVotes make();
    }

    private static Start start;
    private static String portrait;

    public static void main(String[] args) {
        starts();
        from(DogVotes::new);
        ofNobody();
        from(RefusalsTest::four);
        taken();
        rolls();
        votes();
        deciders();
        counts();
        evenings();
        images();
        asked();
        from(RefusalsTest::seven);
        whereAllIsFull();
        asked();
        from(RefusalsTest::nothingFits);
        whereNothingFits();
        DUE.end();
    }

    /** Four, of whom c is dead; two COUNTS that hold, two QUESTIONS, one IMAGE, and an open end on the PAD. */
    private static DogVotes four() {
        DogVotes x = Due.parish("3+2!b;2?;4-1!ag;1?;");
        x.hunger(4);
        x.image(1);
        x.heir(0, 1);
        x.heir(1, 3);
        x.heir(2, 0);
        x.dies(2);
        x.counted(0, 0, 10);
        x.counted(0, 3, 3);
        x.ask(3, 0, 40);
        x.ask(0, 5, 50);
        x.hunger(1);
        Due.write(x, "5+5;1?!a");
        return x;
    }

    /** As much of all as there can be. */
    private static DogVotes seven() {
        DogVotes x = Due.parish("9+9!bc;8?!ac;7-9!ab;6?!fg;5+0!g;4?!ag;3-3!af;");
        x.image(0);
        for (int dog = 0; dog < 7; dog++) {
            x.heir(dog, (dog + 1) % 7);
        }
        for (int k = 0; k < 6; k++) {
            x.counted(k, 0, x.vote(k, 0, 0));
        }
        for (int k = 0; k < 5; k++) {
            x.ask(2 * k, 4, 10 + k);
        }
        x.hunger(9);
        x.image(1);
        Due.write(x, SIXTY);
        return x;
    }

    private static DogVotes nothingFits() {
        DogVotes x = Due.parish("3?;2+1;");
        x.counted(0, 0, 63);
        return x;
    }

    private static void from(Start made) {
        start = made;
        portrait = Portrait.of(made.make());
    }

    private static void refused(String name, Call call, long want) {
        DogVotes x = start.make();
        DUE.is(name, call.on(x), want);
        DUE.is(name + " again", call.on(x), want);
        DUE.holds(name + " changes nothing", Portrait.of(x).equals(portrait));
    }

    private static void starts() {
        DUE.of("the starts are what they are to be");
        DogVotes x = four();
        DUE.is("four: ways that fit", x.fits(-1), 36);
        DUE.is("four: the one who has inherited", x.dog(0, 0), 7);
        DUE.is("four: the end is open", x.fault(), x.told(0));
        DogVotes y = seven();
        DUE.holds("seven: there are ways that fit", y.fits(-1) > 0);
        DUE.is("seven: DOGS", y.told(1), 7);
        DUE.is("seven: COUNTS", y.told(3), 6);
        DUE.is("seven: QUESTIONS", y.told(4), 5);
        DUE.is("seven: signs", y.told(0), 60);
        DUE.is("nothing fits", nothingFits().fits(-1), 0);
    }

    /** A call that is not refused can be seen in the portrait; else it would prove nothing. */
    private static void taken() {
        DUE.of("the portrait shows each change");
        takes("say", x -> x.say('c'), 9);
        takes("wipe", DogVotes::wipe, 8);
        takes("roll", x -> x.say(';') + x.roll(), 11);
        takes("heir", x -> x.heir(3, 0), DogVotes.NONE);
        takes("heir of none", x -> x.heir(2, -1), 0);
        takes("dies", x -> x.dies(3), 1);
        takes("counted", x -> x.counted(0, 3, 3), 3);
        takes("forget", DogVotes::forget, 2);
        takes("ask", x -> x.ask(0, 0, 0), 3);
        takes("drop", DogVotes::drop, 2);
        takes("hunger", x -> x.hunger(2), 1);
        takes("image(0)", x -> x.image(0), 1);
        takes("image(1)", x -> x.image(1), 1);
        takes("restore(1)", x -> x.restore(1), 1);
    }

    private static void takes(String name, Call call, long want) {
        DogVotes x = start.make();
        DUE.is(name, call.on(x), want);
        DUE.holds(name + " changes the portrait", !Portrait.of(x).equals(portrait));
    }

    private static void ofNobody() {
        DUE.of("Nobody is on the ROLL");
        refused("dog(0, 0)", x -> x.dog(0, 0), UNKNOWN);
        refused("heir(0, -1)", x -> x.heir(0, -1), UNKNOWN);
        refused("heir(0, 1)", x -> x.heir(0, 1), UNKNOWN);
        refused("dies(0)", x -> x.dies(0), UNKNOWN);
        refused("goes(0, 0, 0)", x -> x.goes(0, 0, 0), UNKNOWN);
        refused("swings(0)", x -> x.swings(0), UNKNOWN);
        refused("turn(0, 0)", x -> x.turn(0, 0), LOST + UNKNOWN);
        refused("liking(0, 0)", x -> x.liking(0, 0), UNKNOWN);
        refused("told(10)", x -> x.told(10), OUTSIDE);
        refused("restore(0)", x -> x.restore(0), STATE);
        refused("restore(1)", x -> x.restore(1), STATE);
    }

    private static void rolls() {
        DUE.of("say: OUTSIDE; FULL");
        for (int sign : new int[] {MIN, -1, 0, 32, 127, 128, 33 + 256, 33 + 65536, MAX}) {
            refused("say(" + sign + ")", x -> x.say(sign), OUTSIDE);
        }
        DUE.of("roll: NO: there is a FAULT");
        refused("roll()", DogVotes::roll, NO);
        DUE.of("dog: UNKNOWN; OUTSIDE");
        for (int dog : new int[] {MIN, -1, 4, 7, MAX}) {
            refused("dog(" + dog + ", 0)", x -> x.dog(dog, 0), UNKNOWN);
            refused("dog(" + dog + ", 3), both", x -> x.dog(dog, 3), UNKNOWN);
            refused("dog(" + dog + ", -1), both", x -> x.dog(dog, -1), UNKNOWN);
        }
        for (int what : new int[] {MIN, -1, 3, MAX}) {
            refused("dog(0, " + what + ")", x -> x.dog(0, what), OUTSIDE);
            refused("dog(3, " + what + ")", x -> x.dog(3, what), OUTSIDE);
        }
        heirs();
        DUE.of("dies: UNKNOWN; STATE: it is dead");
        for (int dog : new int[] {MIN, -1, 4, 7, MAX}) {
            refused("dies(" + dog + ")", x -> x.dies(dog), UNKNOWN);
        }
        refused("dies(2)", x -> x.dies(2), STATE);
    }

    private static void heirs() {
        DUE.of("heir: UNKNOWN: both, also both are one");
        for (int dog : new int[] {MIN, -1, 4, 7, MAX}) {
            refused("heir(" + dog + ", 0)", x -> x.heir(dog, 0), UNKNOWN);
            refused("heir(" + dog + ", -1)", x -> x.heir(dog, -1), UNKNOWN);
            refused("heir(" + dog + ", 5), both", x -> x.heir(dog, 5), UNKNOWN);
        }
        for (int other : new int[] {MIN, -2, 4, 7, MAX}) {
            refused("heir(0, " + other + ")", x -> x.heir(0, other), UNKNOWN);
        }
        for (int dog = -2; dog <= 7; dog++) {
            int one = dog;
            refused("heir(" + one + ", " + one + ")", x -> x.heir(one, one), UNKNOWN);
        }
    }

    private static void votes() {
        for (int liver : new int[] {MIN, -1, 21, MAX}) {
            DUE.of("goes: UNKNOWN; OUTSIDE");
            refused("goes(" + liver + ", 0, 0)", x -> x.goes(liver, 0, 0), OUTSIDE);
            refused("goes(0, " + liver + ", 3)", x -> x.goes(0, liver, 3), OUTSIDE);
            refused("goes(" + liver + ", " + liver + ", 0)", x -> x.goes(liver, liver, 0), OUTSIDE);
            refused("goes(" + liver + ", 0, 4), both", x -> x.goes(liver, 0, 4), UNKNOWN);
            refused("goes(0, " + liver + ", -1), both", x -> x.goes(0, liver, -1), UNKNOWN);
            DUE.of("vote: OUTSIDE");
            refused("vote(" + liver + ", 0, 0)", x -> x.vote(liver, 0, 0), OUTSIDE);
            refused("vote(0, " + liver + ", 1)", x -> x.vote(0, liver, 1), OUTSIDE);
            refused("vote(" + liver + ", " + liver + ", 2)", x -> x.vote(liver, liver, 2), OUTSIDE);
            refused("vote(" + liver + ", 0, 3)", x -> x.vote(liver, 0, 3), OUTSIDE);
            DUE.of("stolen: OUTSIDE");
            refused("stolen(" + liver + ", 0)", x -> x.stolen(liver, 0), OUTSIDE);
            refused("stolen(0, " + liver + ")", x -> x.stolen(0, liver), OUTSIDE);
            refused("stolen(" + liver + ", " + liver + ")", x -> x.stolen(liver, liver), OUTSIDE);
            DUE.of("won: OUTSIDE");
            refused("won(" + liver + ")", x -> x.won(liver), OUTSIDE);
            DUE.of("letOut: OUTSIDE: l, r");
            for (int i : new int[] {-2, -1, 0, 4}) {
                refused("letOut(" + liver + ", 0, " + i + ")", x -> x.letOut(liver, 0, i), OUTSIDE);
                refused("letOut(0, " + liver + ", " + i + ")", x -> x.letOut(0, liver, i), OUTSIDE);
                refused("letOut(" + liver + ", " + liver + ", " + i + ")", x -> x.letOut(liver, liver, i), OUTSIDE);
            }
        }
        for (int dog : new int[] {MIN, -1, 4, 7, MAX}) {
            DUE.of("goes: UNKNOWN");
            refused("goes(0, 0, " + dog + ")", x -> x.goes(0, 0, dog), UNKNOWN);
        }
        for (int what : new int[] {MIN, -1, 3, MAX}) {
            DUE.of("vote: OUTSIDE");
            refused("vote(0, 0, " + what + ")", x -> x.vote(0, 0, what), OUTSIDE);
        }
    }

    private static void deciders() {
        for (int dog : new int[] {MIN, -1, 4, 7, MAX}) {
            DUE.of("swings: UNKNOWN");
            refused("swings(" + dog + ")", x -> x.swings(dog), UNKNOWN);
            DUE.of("Fractions are refused with LOST and the refusal");
            refused("turn(" + dog + ", 0)", x -> x.turn(dog, 0), LOST + UNKNOWN);
            refused("turn(" + dog + ", 1)", x -> x.turn(dog, 1), LOST + UNKNOWN);
            refused("turn(" + dog + ", 2), both", x -> x.turn(dog, 2), LOST + UNKNOWN);
            refused("turn(" + dog + ", -1), both", x -> x.turn(dog, -1), LOST + UNKNOWN);
        }
        for (int part : new int[] {MIN, -1, 2, MAX}) {
            refused("turn(0, " + part + ")", x -> x.turn(0, part), LOST + OUTSIDE);
            refused("turn(2, " + part + ") of a dead one", x -> x.turn(2, part), LOST + OUTSIDE);
        }
    }

    private static void counts() {
        DUE.of("counted: OUTSIDE: l, r, HALVES 0 to 63");
        for (int liver : new int[] {MIN, -1, 21, MAX}) {
            refused("counted(" + liver + ", 0, 0)", x -> x.counted(liver, 0, 0), OUTSIDE);
            refused("counted(0, " + liver + ", 0)", x -> x.counted(0, liver, 0), OUTSIDE);
            refused("counted(" + liver + ", " + liver + ", 0)", x -> x.counted(liver, liver, 0), OUTSIDE);
            refused("counted(" + liver + ", 0, 64)", x -> x.counted(liver, 0, 64), OUTSIDE);
        }
        for (int halves : new int[] {MIN, -1, 64, MAX}) {
            refused("counted(0, 0, " + halves + ")", x -> x.counted(0, 0, halves), OUTSIDE);
        }
        DUE.of("liking: UNKNOWN: also one whose LIKING is told; OUTSIDE");
        for (int dog : new int[] {MIN, -1, 4, 7, MAX, 0, 2}) {
            refused("liking(" + dog + ", 0)", x -> x.liking(dog, 0), UNKNOWN);
            refused("liking(" + dog + ", 1)", x -> x.liking(dog, 1), UNKNOWN);
            refused("liking(" + dog + ", 2), both", x -> x.liking(dog, 2), UNKNOWN);
            refused("liking(" + dog + ", -1), both", x -> x.liking(dog, -1), UNKNOWN);
        }
        for (int what : new int[] {MIN, -1, 2, MAX}) {
            refused("liking(1, " + what + ")", x -> x.liking(1, what), OUTSIDE);
            refused("liking(3, " + what + ")", x -> x.liking(3, what), OUTSIDE);
        }
    }

    private static void evenings() {
        DUE.of("ask: OUTSIDE");
        for (int liver : new int[] {MIN, -1, 21, MAX}) {
            refused("ask(" + liver + ", 0, 0)", x -> x.ask(liver, 0, 0), OUTSIDE);
            refused("ask(0, " + liver + ", 0)", x -> x.ask(0, liver, 0), OUTSIDE);
            refused("ask(" + liver + ", " + liver + ", 0)", x -> x.ask(liver, liver, 0), OUTSIDE);
            refused("ask(" + liver + ", 0, 100)", x -> x.ask(liver, 0, 100), OUTSIDE);
        }
        for (int worth : new int[] {MIN, -1, 100, MAX}) {
            refused("ask(0, 0, " + worth + ")", x -> x.ask(0, 0, worth), OUTSIDE);
        }
        DUE.of("hunger: OUTSIDE");
        for (int v : new int[] {MIN, -1, 0, 10, MAX}) {
            refused("hunger(" + v + ")", x -> x.hunger(v), OUTSIDE);
        }
        DUE.of("night: OUTSIDE");
        for (int seed : new int[] {MIN, -1, 10000, MAX}) {
            refused("night(" + seed + ", 1, 0)", x -> x.night(seed, 1, 0), OUTSIDE);
            refused("night(" + seed + ", 0, 3)", x -> x.night(seed, 0, 3), OUTSIDE);
        }
        for (int n : new int[] {MIN, -1, 0, 61, MAX}) {
            refused("night(0, " + n + ", 0)", x -> x.night(0, n, 0), OUTSIDE);
        }
        for (int what : new int[] {MIN, -1, 3, MAX}) {
            refused("night(0, 1, " + what + ")", x -> x.night(0, 1, what), OUTSIDE);
        }
    }

    private static void images() {
        for (int n : new int[] {MIN, -1, 2, 32, 33, MAX}) {
            DUE.of("image: OUTSIDE");
            refused("image(" + n + ")", x -> x.image(n), OUTSIDE);
            DUE.of("restore: OUTSIDE, also as it was not kept");
            refused("restore(" + n + ")", x -> x.restore(n), OUTSIDE);
        }
        DUE.of("restore: STATE: it was not");
        refused("restore(0)", x -> x.restore(0), STATE);
        DUE.of("told: OUTSIDE (also of DOGS that there are not)");
        for (int what : new int[] {MIN, -1, 6, 7, 8, 9, 14, 15, 16, 17, MAX}) {
            refused("told(" + what + ")", x -> x.told(what), OUTSIDE);
        }
    }

    private static void whereAllIsFull() {
        DUE.of("say: OUTSIDE; FULL");
        refused("say of sign 61", x -> x.say('1'), FULL);
        refused("say(33)", x -> x.say(33), FULL);
        refused("say(126)", x -> x.say(126), FULL);
        refused("say(32), both", x -> x.say(32), OUTSIDE);
        refused("say(127), both", x -> x.say(127), OUTSIDE);
        DUE.of("roll: NO: there is a FAULT");
        refused("roll()", DogVotes::roll, NO);
        DUE.of("counted: OUTSIDE; FULL");
        refused("a seventh COUNT", x -> x.counted(0, 0, 0), FULL);
        refused("a seventh COUNT, numbers at their most", x -> x.counted(20, 20, 63), FULL);
        refused("counted(21, 0, 0), both", x -> x.counted(21, 0, 0), OUTSIDE);
        refused("counted(0, -1, 0), both", x -> x.counted(0, -1, 0), OUTSIDE);
        refused("counted(0, 0, 64), both", x -> x.counted(0, 0, 64), OUTSIDE);
        refused("counted(0, 0, -1), both", x -> x.counted(0, 0, -1), OUTSIDE);
        DUE.of("ask: OUTSIDE; FULL");
        refused("a sixth QUESTION", x -> x.ask(0, 0, 0), FULL);
        refused("a sixth QUESTION, numbers at their most", x -> x.ask(20, 20, 99), FULL);
        refused("ask(21, 0, 0), both", x -> x.ask(21, 0, 0), OUTSIDE);
        refused("ask(0, -1, 0), both", x -> x.ask(0, -1, 0), OUTSIDE);
        refused("ask(0, 0, 100), both", x -> x.ask(0, 0, 100), OUTSIDE);
        refused("ask(0, 0, -1), both", x -> x.ask(0, 0, -1), OUTSIDE);
        DUE.of("seven DOGS: there is no eighth");
        refused("dog(7, 0)", x -> x.dog(7, 0), UNKNOWN);
        refused("heir(0, 7)", x -> x.heir(0, 7), UNKNOWN);
        refused("heir(7, 0)", x -> x.heir(7, 0), UNKNOWN);
        refused("dies(7)", x -> x.dies(7), UNKNOWN);
        refused("goes(0, 0, 7)", x -> x.goes(0, 0, 7), UNKNOWN);
        refused("swings(7)", x -> x.swings(7), UNKNOWN);
        refused("turn(7, 1)", x -> x.turn(7, 1), LOST + UNKNOWN);
        refused("liking(7, 1)", x -> x.liking(7, 1), UNKNOWN);
        refused("told(17)", x -> x.told(17), OUTSIDE);
    }

    private static void whereNothingFits() {
        DUE.of("liking: UNKNOWN; OUTSIDE; STATE: nothing fits");
        refused("liking(0, 0)", x -> x.liking(0, 0), STATE);
        refused("liking(0, 1)", x -> x.liking(0, 1), STATE);
        refused("liking(0, 2), OUTSIDE and STATE", x -> x.liking(0, 2), OUTSIDE);
        refused("liking(0, -1), OUTSIDE and STATE", x -> x.liking(0, -1), OUTSIDE);
        refused("liking(1, 0), UNKNOWN and STATE", x -> x.liking(1, 0), UNKNOWN);
        refused("liking(2, 0), UNKNOWN and STATE", x -> x.liking(2, 0), UNKNOWN);
        refused("liking(2, 2), all three", x -> x.liking(2, 2), UNKNOWN);
        refused("liking(1, -1), all three", x -> x.liking(1, -1), UNKNOWN);
    }

    /** Calls that only ask, those that answer NONE too: they are not refused, and change nothing either. */
    private static void asked() {
        DUE.of("what is only asked stands");
        asks("fault()", DogVotes::fault);
        asks("dog", x -> x.dog(1, 1));
        asks("goes", x -> x.goes(3, 9, 1));
        asks("vote", x -> x.vote(3, 9, 2));
        asks("stolen", x -> x.stolen(3, 9));
        asks("won", x -> x.won(20));
        asks("swings", x -> x.swings(0));
        asks("turn", x -> x.turn(0, 0));
        asks("liking", x -> x.liking(1, 1));
        asks("night", x -> x.night(77, 60, 0));
        asks("image told", x -> x.told(2));
        for (int i : new int[] {MIN, -2, -1, 0, 7, 100, MAX}) {
            asks("rests(" + i + ")", x -> x.rests(i));
            asks("letOut(" + i + ")", x -> x.letOut(9, 3, i));
            asks("fits(" + i + ")", x -> x.fits(i));
            asks("best(" + i + ")", x -> x.best(i));
        }
    }

    private static void asks(String name, Call call) {
        DogVotes x = start.make();
        long first = call.on(x);
        DUE.is(name + " again", call.on(x), first);
        DUE.holds(name + " changes nothing", Portrait.of(x).equals(portrait));
    }
}
