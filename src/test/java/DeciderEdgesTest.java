/** The edges of who decides: "Terms" 3, promises 15 and 16, sentence by sentence. */
public final class DeciderEdgesTest {
    private static final Due DUE = new Due("DeciderEdgesTest");
    private static final long LOST = -1000000000000000000L;

    public static void main(String[] args) {
        half();
        nobodyFears();
        oneToSeven();
        lowestTerms();
        parts();
        theDead();
        allButOneDead();
        DUE.end();
    }

    /** Of a ROLL with these HALVES: SWINGS, upper and lower number of TURNS of each. */
    private static void decides(DogVotes x, String text, int[] swings, int[] uppers, int[] lowers) {
        for (int dog = 0; dog < swings.length; dog++) {
            DUE.is(text + " swings(" + dog + ")", x.swings(dog), swings[dog]);
            DUE.is(text + " turn(" + dog + ", 0)", x.turn(dog, 0), uppers[dog]);
            DUE.is(text + " turn(" + dog + ", 1)", x.turn(dog, 1), lowers[dog]);
        }
    }

    private static void decides(String text, int[] swings, int[] uppers, int[] lowers) {
        decides(Due.parish(text), text, swings, uppers, lowers);
    }

    private static int[] row(int... numbers) {
        return numbers;
    }

    private static void half() {
        DUE.of("LEFT wins, if it goes LEFT, but not, if it goes RIGHT; HALVES become more than half of all");
        decides("1+0;1+0;", row(1, 1), row(1, 1), row(2, 2));
        decides("2+0;1+0;", row(2, 0), row(1, 0), row(1, 1));
        decides("1+0;1+0;1+0;", row(2, 2, 2), row(1, 1, 1), row(3, 3, 3));
        // Just half of all, one below, one above.
        decides("2+0;1+0;1+0;", row(3, 1, 1), row(2, 1, 1), row(3, 6, 6));
        decides("1+0;1+0;1+0;1+0;", row(3, 3, 3, 3), row(1, 1, 1, 1), row(4, 4, 4, 4));
        decides("3+0;1+0;1+0;", row(4, 0, 0), row(1, 0, 0), row(1, 1, 1));
        decides("2+0;2+0;1+0;", row(2, 2, 2), row(1, 1, 1), row(3, 3, 3));
        decides("3+0;2+0;1+0;", row(3, 1, 1), row(2, 1, 1), row(3, 6, 6));
        decides("8+0;4+0;2+0;1+0;", row(8, 0, 0, 0), row(1, 0, 0, 0), row(1, 1, 1, 1));
        decides("4+0;3+0;2+0;1+0;", row(5, 3, 3, 1), row(5, 1, 1, 1), row(12, 4, 4, 12));
    }

    private static void nobodyFears() {
        DUE.of("(nobody FEARS, LIKES)");
        decides("4-9!bc;3+9!ag;2?!ab;1-1!a;", row(5, 3, 3, 1), row(5, 1, 1, 1), row(12, 4, 4, 12));
        decides("4+9;3+9!a;2+9!ab;1?!ac;", row(5, 3, 3, 1), row(5, 1, 1, 1), row(12, 4, 4, 12));
    }

    private static void oneToSeven() {
        DUE.of("of all ways in which all others go; of all orders: one DOG, and seven");
        decides("1+0;", row(1), row(1), row(1));
        decides("9+0;", row(1), row(1), row(1));
        decides("9+0;9+0;9+0;9+0;9+0;9+0;1+0;", row(20, 20, 20, 20, 20, 20, 20), row(1, 1, 1, 1, 1, 1, 1), row(7, 7, 7, 7, 7, 7, 7));
        decides("9+0;1+0;1+0;1+0;1+0;1+0;1+0;", row(64, 0, 0, 0, 0, 0, 0), row(1, 0, 0, 0, 0, 0, 0), row(1, 1, 1, 1, 1, 1, 1));
        decides("6+0;1+0;1+0;1+0;1+0;1+0;1+0;", row(63, 1, 1, 1, 1, 1, 1), row(6, 1, 1, 1, 1, 1, 1), row(7, 42, 42, 42, 42, 42, 42));
        decides("5+0;1+0;1+0;1+0;1+0;1+0;1+0;", row(62, 2, 2, 2, 2, 2, 2), row(5, 1, 1, 1, 1, 1, 1), row(7, 21, 21, 21, 21, 21, 21));
        decides("9+0;8+0;7+0;6+0;5+0;4+0;3+0;", row(29, 25, 21, 19, 15, 11, 9), row(97, 83, 23, 31, 4, 17, 9),
            row(420, 420, 140, 210, 35, 210, 140));
    }

    private static void lowestTerms() {
        DUE.of("Fractions are told in lowest terms by part: 0 the upper, 1 the lower number");
        decides("7+0;6+0;5+0;4+0;3+0;2+0;1+0;", row(32, 26, 22, 16, 14, 8, 4), row(37, 3, 19, 11, 4, 9, 13),
            row(140, 14, 105, 84, 35, 140, 420));
        DUE.of("in lowest terms: all is 1 of 1, nothing is 0 of 1");
        decides("9+0;1+0;", row(2, 0), row(1, 0), row(1, 1));
    }

    private static void parts() {
        DUE.of("TURNS: part 0, 1; refused with LOST and the refusal");
        DogVotes x = Due.parish("2+0;1+0;1+0;");
        long[] wants = {LOST - 2, 2, 3, LOST - 2};
        for (int part = -1; part <= 2; part++) {
            DUE.is("turn(0, " + part + ")", x.turn(0, part), wants[part + 1]);
            DUE.is("turn(-1, " + part + ")", x.turn(-1, part), LOST - 1);
            DUE.is("turn(3, " + part + ")", x.turn(3, part), LOST - 1);
        }
        for (int dog = -1; dog <= 3; dog++) {
            boolean is = dog >= 0 && dog < 3;
            DUE.is("swings(" + dog + ")", x.swings(dog), is ? (dog == 0 ? 3 : 1) : -1);
        }
        DUE.of("nobody is on the ROLL");
        DUE.is("swings(0)", new DogVotes().swings(0), -1);
        DUE.is("turn(0, 0)", new DogVotes().turn(0, 0), LOST - 1);
    }

    private static void theDead() {
        DUE.of("all others that are not dead; DOGS that are not dead");
        DogVotes x = Due.parish("9+0;2+0;1+0;1+0;");
        x.dies(0);
        decides(x, "a dead, without HEIR", row(0, 3, 1, 1), row(0, 2, 1, 1), row(1, 3, 6, 6));
        DogVotes y = Due.parish("1+0;1+0;1+0;1+0;");
        y.heir(3, 1);
        y.dies(3);
        decides(y, "d dead, b has its HALVES", row(1, 3, 1, 0), row(1, 2, 1, 0), row(6, 3, 6, 1));
        DogVotes z = Due.parish("1+0;1+0;5+0;1+0;");
        z.dies(2);
        decides(z, "c dead between", row(2, 2, 0, 2), row(1, 1, 0, 1), row(3, 3, 1, 3));
    }

    private static void allButOneDead() {
        DUE.of("of all ways, all orders: one DOG is left; none is left");
        DogVotes x = Due.parish("9+0;".repeat(7));
        for (int dog = 6; dog > 0; dog--) {
            x.dies(dog);
        }
        decides(x, "a is left", row(1, 0, 0, 0, 0, 0, 0), row(1, 0, 0, 0, 0, 0, 0), row(1, 1, 1, 1, 1, 1, 1));
        x.dies(0);
        decides(x, "none is left", row(0, 0, 0, 0, 0, 0, 0), row(0, 0, 0, 0, 0, 0, 0), row(1, 1, 1, 1, 1, 1, 1));
    }
}
