/** Promises 1 to 8. */
public final class RollsTest {
    private static final Due DUE = new Due("RollsTest");

    public static void main(String[] args) {
        newObject();
        say();
        wipe();
        faults();
        faultsOfFears();
        faultsOfTooMany();
        roll();
        rollTakesAway();
        rollIsNew();
        dog();
        heir();
        dies();
        diesInChains();
        DUE.end();
    }

    private static void newObject() {
        DogVotes x = new DogVotes();
        DUE.is("new told(0)", x.told(0), 0);
        DUE.is("new told(1)", x.told(1), 0);
        DUE.is("new told(2)", x.told(2), 2);
        DUE.is("new told(3)", x.told(3), 0);
        DUE.is("new told(4)", x.told(4), 0);
        DUE.is("new told(5)", x.told(5), 0);
        DUE.is("new fault", x.fault(), DogVotes.NONE);
        DUE.is("new dog(0, 0)", x.dog(0, 0), DogVotes.UNKNOWN);
        DUE.is("new vote(0, 0, 2)", x.vote(0, 0, 2), 2);
        DUE.is("new restore(0)", x.restore(0), DogVotes.STATE);
        DUE.is("new restore(1)", x.restore(1), DogVotes.STATE);
    }

    private static void say() {
        DogVotes x = new DogVotes();
        DUE.is("say(32)", x.say(32), DogVotes.OUTSIDE);
        DUE.is("say(127)", x.say(127), DogVotes.OUTSIDE);
        DUE.is("say(-1)", x.say(-1), DogVotes.OUTSIDE);
        DUE.is("say(least)", x.say(Integer.MIN_VALUE), DogVotes.OUTSIDE);
        DUE.is("say(most)", x.say(Integer.MAX_VALUE), DogVotes.OUTSIDE);
        DUE.is("say(33)", x.say(33), 1);
        DUE.is("say(126)", x.say(126), 2);
        for (int k = 3; k <= 60; k++) {
            DUE.is("say of sign " + k, x.say('1'), k);
        }
        DUE.is("say of sign 61", x.say('1'), DogVotes.FULL);
        DUE.is("say(32) on a full PAD", x.say(32), DogVotes.OUTSIDE);
        DUE.is("told(0) of a full PAD", x.told(0), 60);
    }

    private static void wipe() {
        DogVotes x = Due.parish("3+2;");
        DUE.is("wipe of nothing", x.wipe(), 0);
        Due.write(x, "9+");
        DUE.is("wipe of two", x.wipe(), 2);
        DUE.is("wipe again", x.wipe(), 0);
        DUE.is("told(0) wiped", x.told(0), 0);
        DUE.is("fault wiped", x.fault(), DogVotes.NONE);
        DUE.is("the ROLL stands", x.dog(0, 0), 3);
        DUE.is("say after wipe", x.say('1'), 1);
    }

    private static void fault(String text, int want) {
        DogVotes x = new DogVotes();
        Due.write(x, text);
        DUE.is("fault of " + text, x.fault(), want);
        DUE.is("fault of " + text + " again", x.fault(), want);
        DUE.is("told(0) after fault of " + text, x.told(0), text.length());
    }

    private static void faults() {
        fault("", DogVotes.NONE);
        fault("1+0;", DogVotes.NONE);
        fault("9-9;", DogVotes.NONE);
        fault("5-0;", DogVotes.NONE);
        fault("5?;", DogVotes.NONE);
        fault("0", 0);
        fault(";", 0);
        fault("a", 0);
        fault("3", 1);
        fault("33", 1);
        fault("3!", 1);
        fault("3;", 1);
        fault("3+", 2);
        fault("3-", 2);
        fault("3+?", 2);
        fault("3++", 2);
        fault("3+/", 2);
        fault("3+:", 2);
        fault("3+5", 3);
        fault("3+55", 3);
        fault("3+5?", 3);
        fault("3?5", 2);
        fault("3?+", 2);
        fault("3+5;;", 4);
        fault("3+5;0", 4);
        fault("3+5;3", 5);
        fault("3+5;3-1", 7);
    }

    private static void faultsOfFears() {
        fault("3+5!", 4);
        fault("3+5!;", 4);
        fault("3+5!!", 4);
        fault("3+5!a", 4);
        fault("3+5!b", 5);
        fault("3+5!b;", DogVotes.NONE);
        fault("3+5!g;", DogVotes.NONE);
        fault("3+5!h", 4);
        fault("3+5!`", 4);
        fault("3+5!B", 4);
        fault("3+5!gg", 5);
        fault("3+5!gh", 5);
        fault("3+5!bb", 5);
        fault("3+5!cb", 5);
        fault("3+5!ba", 5);
        fault("3+5!bg", 6);
        fault("3+5!bg;", DogVotes.NONE);
        fault("3+5!bcd", 6);
        fault("3+5!b!", 5);
        fault("3+5!b;3+5!ab", 11);
        fault("3+5!b;3+5!ac;", DogVotes.NONE);
        fault("3+5!b;3+5!b", 10);
        fault("3+5!b;3+5!a;3+5!ac", 17);
        fault("1+0;1+0;1+0;1+0;1+0;1+0;1+0!g", 28);
        fault("1+0;1+0;1+0;1+0;1+0;1+0;1+0!fg", 29);
        fault("1+0;1+0;1+0;1+0;1+0;1+0;1+0!af;", DogVotes.NONE);
    }

    private static void faultsOfTooMany() {
        fault("1?;1?;1?;", DogVotes.NONE);
        fault("1?;1?;1?;1?", 10);
        fault("1?;1?;1?;1", 10);
        fault("1?;1?;1?;1+0;", DogVotes.NONE);
        fault("1+0;1+0;1+0;1+0;1+0;1+0;1+0;", DogVotes.NONE);
        fault("1+0;1+0;1+0;1+0;1+0;1+0;1+0;1", 28);
        fault("1+0;1+0;1+0;1+0;1+0;1+0;1+0;;", 28);
        fault("9+0!bc;9+0!ac;9+0!ab;9+0!ab;9?!ab;9?!ab;9?!ab;1", 46);
        fault("1+0;".repeat(15), 28);
    }

    private static void roll() {
        DogVotes x = new DogVotes();
        DUE.is("roll of no signs", x.roll(), 0);
        Due.write(x, "3+2;2-1;");
        DUE.is("roll of two", x.roll(), 2);
        DUE.is("told(0) after roll", x.told(0), 0);
        DUE.is("told(1) after roll", x.told(1), 2);
        Due.write(x, "4+2;5");
        DUE.is("roll with a FAULT", x.roll(), DogVotes.NO);
        DUE.is("the PAD stands", x.told(0), 5);
        DUE.is("the ROLL stands", x.told(1), 2);
        DUE.is("its DOG stands", x.dog(0, 0), 3);
        Due.write(x, "?;");
        DUE.is("roll of the mended PAD", x.roll(), 2);
        DUE.is("its first DOG", x.dog(0, 0), 4);
        DUE.is("its second DOG", x.dog(1, 1), DogVotes.NONE);
        DUE.is("roll of nobody", x.roll(), 0);
        DUE.is("told(1) of nobody", x.told(1), 0);
        DUE.is("dog of nobody", x.dog(0, 0), DogVotes.UNKNOWN);
        DUE.is("told(5) of nobody", x.told(5), 0);
    }

    private static void rollTakesAway() {
        DogVotes x = Due.parish("3+2!bc;2?;1+0;");
        x.heir(0, 1);
        x.counted(1, 2, 3);
        x.ask(1, 2, 3);
        x.hunger(7);
        x.image(0);
        Due.write(x, "1");
        x.roll();
        DUE.is("HEIRS stand by NO", x.told(10), 1);
        DUE.is("COUNTS stand by NO", x.told(3), 1);
        Due.write(x, "+0;2+0;");
        x.roll();
        DUE.is("HEIRS go", x.told(10), DogVotes.NONE);
        DUE.is("COUNTS go", x.told(3), 0);
        DUE.is("QUESTIONS stand", x.told(4), 1);
        DUE.is("HUNGER stands", x.told(2), 7);
        DUE.is("nobody is not told", x.told(5), 0);
        DUE.is("the new one FEARS nobody", x.dog(0, 2), 0);
        DUE.is("the third has gone", x.told(12), DogVotes.OUTSIDE);
        DUE.is("an IMAGE stands", x.restore(0), 1);
        DUE.is("its HEIR", x.told(10), 1);
    }

    /** A LIKING that is not told is 0, whatever the one before it in that place had. */
    private static void rollIsNew() {
        DogVotes x = Due.parish("3-5!b;2-5;");
        Due.write(x, "3?;2?;");
        DUE.is("roll of two not told", x.roll(), 2);
        DUE.is("HALVES LEFT", x.vote(0, 0, 0), 5);
        DUE.is("FEARS nobody", x.dog(0, 2), 0);
        Due.write(x, "3-5;9");
        x.fault();
        x.wipe();
        DUE.is("a FAULT looked for changes nothing", x.vote(0, 0, 0), 5);
        DUE.is("nor the LIKING", x.dog(0, 1), DogVotes.NONE);
    }

    private static void dog() {
        DogVotes x = Due.parish("3+2!bg;2-9;1?!a;9+9;5-0;");
        DUE.is("HALVES", x.dog(0, 0), 3);
        DUE.is("LIKING and 9", x.dog(0, 1), 11);
        DUE.is("FEARS, one not of the ROLL", x.dog(0, 2), 2 + 64);
        DUE.is("least LIKING", x.dog(1, 1), 0);
        DUE.is("FEARS nobody", x.dog(1, 2), 0);
        DUE.is("LIKING not told", x.dog(2, 1), DogVotes.NONE);
        DUE.is("FEARS a", x.dog(2, 2), 1);
        DUE.is("most HALVES", x.dog(3, 0), 9);
        DUE.is("greatest LIKING", x.dog(3, 1), 18);
        DUE.is("LIKING -0", x.dog(4, 1), 9);
        DUE.is("dog(5, 0)", x.dog(5, 0), DogVotes.UNKNOWN);
        DUE.is("dog(-1, 0)", x.dog(-1, 0), DogVotes.UNKNOWN);
        DUE.is("dog(5, 3)", x.dog(5, 3), DogVotes.UNKNOWN);
        DUE.is("dog(4, 3)", x.dog(4, 3), DogVotes.OUTSIDE);
        DUE.is("dog(4, -1)", x.dog(4, -1), DogVotes.OUTSIDE);
        x.dies(0);
        DUE.is("HALVES of the dead", x.dog(0, 0), 0);
        DUE.is("LIKING of the dead", x.dog(0, 1), 11);
        DUE.is("FEARS of the dead", x.dog(0, 2), 2 + 64);
    }

    private static void heir() {
        DogVotes x = Due.parish("3+2;2-1;1?;");
        DUE.is("first heir", x.heir(0, 1), DogVotes.NONE);
        DUE.is("another heir", x.heir(0, 2), 1);
        DUE.is("the same heir", x.heir(0, 2), 2);
        DUE.is("heir(0, 0)", x.heir(0, 0), DogVotes.UNKNOWN);
        DUE.is("heir(0, 3)", x.heir(0, 3), DogVotes.UNKNOWN);
        DUE.is("heir(0, -2)", x.heir(0, -2), DogVotes.UNKNOWN);
        DUE.is("heir(3, 0)", x.heir(3, 0), DogVotes.UNKNOWN);
        DUE.is("heir(-1, 0)", x.heir(-1, 0), DogVotes.UNKNOWN);
        DUE.is("heir(-1, -1)", x.heir(-1, -1), DogVotes.UNKNOWN);
        DUE.is("heir(3, -1)", x.heir(3, -1), DogVotes.UNKNOWN);
        DUE.is("refused ones change nothing", x.told(10), 2);
        DUE.is("no heir", x.heir(0, -1), 2);
        DUE.is("told(10)", x.told(10), DogVotes.NONE);
        DUE.is("no heir again", x.heir(0, -1), DogVotes.NONE);
        x.dies(1);
        DUE.is("a dead heir", x.heir(0, 1), DogVotes.NONE);
        DUE.is("a dead one's heir", x.heir(1, 2), DogVotes.NONE);
    }

    private static void dies() {
        DogVotes x = Due.parish("9+0;4+0;5+0;1+0;");
        DUE.is("dies(4)", x.dies(4), DogVotes.UNKNOWN);
        DUE.is("dies(-1)", x.dies(-1), DogVotes.UNKNOWN);
        x.heir(1, 2);
        x.heir(0, 2);
        DUE.is("nine are kept", x.dies(1), 0);
        DUE.is("the heir has nine", x.dog(2, 0), 9);
        DUE.is("dies again", x.dies(1), DogVotes.STATE);
        DUE.is("what is more is lost", x.dies(0), 9);
        DUE.is("the heir has nine still", x.dog(2, 0), 9);
        DUE.is("no heir: all are lost", x.dies(3), 1);
        DUE.is("told(1) has the dead, too", x.told(1), 4);
        DUE.is("an heir stands", x.told(11), 2);
        DUE.is("the last dies", x.dies(2), 9);
    }

    private static void diesInChains() {
        DogVotes x = Due.parish("3+0;4+0;5+0;1+0;2+0;");
        x.heir(0, 1);
        x.heir(1, 2);
        x.heir(2, 3);
        DUE.is("to the second", x.dies(1), 0);
        DUE.is("the third has", x.dog(2, 0), 9);
        DUE.is("to the fourth", x.dies(2), 1);
        DUE.is("the fourth has", x.dog(3, 0), 9);
        x.heir(3, 0);
        DUE.is("to the first", x.dies(3), 3);
        DUE.is("the first has", x.dog(0, 0), 9);
        DUE.is("it comes round to itself", x.dies(0), 9);
        DogVotes y = Due.parish("3+0;4+0;5+0;");
        y.dies(1);
        y.dies(2);
        y.heir(0, 1);
        y.heir(1, 2);
        y.heir(2, 1);
        DUE.is("it comes round among the dead", y.dies(0), 3);
        DogVotes z = Due.parish("1+0;1+0;1+0;1+0;1+0;1+0;2+0;");
        for (int dog = 0; dog < 6; dog++) {
            z.heir(dog, dog + 1);
        }
        for (int dog = 5; dog >= 0; dog--) {
            DUE.is("dies(" + dog + ")", z.dies(dog), 0);
        }
        DUE.is("all is with the last", z.dog(6, 0), 8);
    }
}
