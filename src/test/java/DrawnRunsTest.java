import java.util.Random;

/** Drawn runs of calls, each answer held against PlainVotes; the seed is fixed, so each run is the same. */
public final class DrawnRunsTest {
    private static final Due DUE = new Due("DrawnRunsTest");
    private static final int RUNS = Integer.getInteger("runs", 400);
    private static final int CALLS = 120;
    private static final int[] EDGES = {Integer.MIN_VALUE, -7, -2, -1, 0, 21, 64, 100, 127, 10000, Integer.MAX_VALUE};

    private final Random random;
    private final DogVotes x = new DogVotes();
    private final PlainVotes y = new PlainVotes();
    private final int run;

    private DrawnRunsTest(int run) {
        this.run = run;
        this.random = new Random(run);
    }

    public static void main(String[] args) {
        for (int run = 0; run < RUNS; run++) {
            new DrawnRunsTest(run).go();
        }
        DUE.end();
    }

    private void go() {
        write(rollText());
        due("roll()", x.roll(), y.roll());
        for (int k = 0; k < CALLS; k++) {
            step();
        }
    }

    private void due(String call, long got, long want) {
        DUE.is("run " + run + ": " + call, got, want);
    }

    private int draw(int most) {
        return random.nextInt(most + 1);
    }

    /** Mostly 0 to most, now and then a number that is not as told. */
    private int near(int most) {
        if (draw(24) == 0) {
            return EDGES[draw(EDGES.length - 1)];
        }
        return draw(40) == 0 ? most + 1 : draw(most);
    }

    private int liver() {
        return draw(2) == 0 ? near(20) : near(6);
    }

    private void write(String text) {
        for (char sign : text.toCharArray()) {
            due("say(" + sign + ")", x.say(sign), y.say(sign));
        }
    }

    private String rollText() {
        int dogs = draw(9) == 0 ? 7 : draw(5);
        int untold = draw(19) == 0 ? 3 : draw(2);
        StringBuilder text = new StringBuilder();
        for (int dog = 0; dog < dogs; dog++) {
            text.append((char) ('1' + draw(8)));
            boolean open = untold > 0 && draw(2) == 0;
            untold -= open ? 1 : 0;
            text.append(open ? "?" : (draw(1) == 0 ? "+" : "-") + draw(draw(1) == 0 ? 9 : 2));
            text.append(fears(dog)).append(';');
        }
        return text.toString();
    }

    private String fears(int dog) {
        if (draw(2) == 0) {
            return "";
        }
        int one = draw(6);
        int two = draw(6);
        if (one == dog || two == dog) {
            return "";
        }
        String low = String.valueOf((char) ('a' + Math.min(one, two)));
        return "!" + low + (one == two ? "" : String.valueOf((char) ('a' + Math.max(one, two))));
    }

    private String marred(String text) {
        String signs = "0123456789+-?!abcdefgh;";
        StringBuilder marred = new StringBuilder(text);
        for (int k = draw(2); k >= 0; k--) {
            int place = draw(marred.length());
            char sign = signs.charAt(draw(signs.length() - 1));
            if (draw(1) == 0 && place < marred.length()) {
                marred.setCharAt(place, sign);
            } else {
                marred.insert(place, sign);
            }
        }
        return draw(2) == 0 ? marred.substring(0, draw(marred.length())) : marred.toString();
    }

    private void step() {
        switch (draw(13)) {
            case 0: pads(); break;
            case 1: dogs(); break;
            case 2: case 3: deaths(); break;
            case 4: case 5: votes(); break;
            case 6: offers(); break;
            case 7: ways(); break;
            case 8: deciders(); break;
            case 9: counts(); break;
            case 10: guesses(); break;
            case 11: questions(); break;
            case 12: evenings(); break;
            default: images(); break;
        }
        int what = draw(2) == 0 ? near(17) : draw(17);
        due("told(" + what + ")", x.told(what), y.told(what));
    }

    private void pads() {
        if (draw(3) == 0) {
            due("wipe()", x.wipe(), y.wipe());
        }
        String text = rollText();
        write(draw(3) == 0 ? text : marred(text));
        if (draw(5) == 0) {
            int sign = EDGES[draw(EDGES.length - 1)];
            due("say(" + sign + ")", x.say(sign), y.say(sign));
        }
        due("fault()", x.fault(), y.fault());
        if (draw(2) == 0) {
            due("roll()", x.roll(), y.roll());
        }
    }

    private void dogs() {
        int dog = near(6);
        int what = near(2);
        due("dog(" + dog + ", " + what + ")", x.dog(dog, what), y.dog(dog, what));
    }

    private void deaths() {
        int dog = near(5);
        int other = near(6) - draw(1);
        if (draw(3) == 0) {
            due("dies(" + dog + ")", x.dies(dog), y.dies(dog));
        } else {
            due("heir(" + dog + ", " + other + ")", x.heir(dog, other), y.heir(dog, other));
        }
    }

    private void votes() {
        int l = liver();
        int r = liver();
        String at = "(" + l + ", " + r + ", ";
        int dog = near(6);
        int what = near(2);
        due("goes" + at + dog + ")", x.goes(l, r, dog), y.goes(l, r, dog));
        due("vote" + at + what + ")", x.vote(l, r, what), y.vote(l, r, what));
        due("stolen" + at, x.stolen(l, r), y.stolen(l, r));
    }

    private void offers() {
        int r = near(20);
        int i = near(12) - 1;
        due("won(" + r + ")", x.won(r), y.won(r));
        due("rests(" + i + ")", x.rests(i), y.rests(i));
        due("rests(-1)", x.rests(-1), y.rests(-1));
    }

    /** PlainVotes is slow here, so seven DOGS are let out in few runs only. */
    private void ways() {
        int l = liver();
        int r = liver();
        int most = y.told(1) > 5 && draw(9) > 0 ? 0 : 3;
        for (int k = 0; k < most; k++) {
            int i = near(7) - 1;
            due("letOut(" + l + ", " + r + ", " + i + ")", x.letOut(l, r, i), y.letOut(l, r, i));
        }
    }

    private void deciders() {
        int dog = near(6);
        int part = near(1);
        due("swings(" + dog + ")", x.swings(dog), y.swings(dog));
        due("turn(" + dog + ", " + part + ")", x.turn(dog, part), y.turn(dog, part));
    }

    private void counts() {
        int l = liver();
        int r = liver();
        int held = y.vote(l, r, 0);
        int halves = draw(3) > 0 && held >= 0 ? held : near(63);
        if (draw(5) == 0) {
            due("forget()", x.forget(), y.forget());
        }
        due("counted(" + l + ", " + r + ", " + halves + ")", x.counted(l, r, halves), y.counted(l, r, halves));
    }

    private void guesses() {
        int i = near(3) - 1;
        int dog = near(6);
        int what = near(1);
        due("fits(" + i + ")", x.fits(i), y.fits(i));
        due("fits(-1)", x.fits(-1), y.fits(-1));
        due("liking(" + dog + ", " + what + ")", x.liking(dog, what), y.liking(dog, what));
    }

    private void questions() {
        int l = liver();
        int r = liver();
        int worth = near(99);
        if (draw(7) == 0) {
            due("drop()", x.drop(), y.drop());
        }
        due("ask(" + l + ", " + r + ", " + worth + ")", x.ask(l, r, worth), y.ask(l, r, worth));
    }

    private void evenings() {
        int v = draw(2) == 0 ? near(9) : draw(3);
        int i = near(5) - 1;
        if (draw(1) == 0) {
            due("hunger(" + v + ")", x.hunger(v), y.hunger(v));
        }
        due("best(-1)", x.best(-1), y.best(-1));
        due("best(" + i + ")", x.best(i), y.best(i));
        int seed = near(9999);
        int n = near(60);
        int what = near(2);
        due("night(" + seed + ", " + n + ", " + what + ")", x.night(seed, n, what), y.night(seed, n, what));
    }

    private void images() {
        int n = near(1);
        if (draw(1) == 0) {
            due("image(" + n + ")", x.image(n), y.image(n));
        } else {
            due("restore(" + n + ")", x.restore(n), y.restore(n));
        }
    }
}
