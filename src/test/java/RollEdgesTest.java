/** The edges of rolls: "Terms" 1, what DIES says, promises 1 to 8, sentence by sentence. */
public final class RollEdgesTest {
    private static final Due DUE = new Due("RollEdgesTest");
    private static final int NONE = DogVotes.NONE, UNKNOWN = DogVotes.UNKNOWN, OUTSIDE = DogVotes.OUTSIDE;
    private static final String DIGITS = "123456789";
    private static final String LONG = "9+9!bc;9-9!ac;9+0!ab;9-0!ab;9?!ab;9?!ab;9?!ab;";
    private static final String LONGEST = "9+9!bc;9-9!ac;9+0!ab;9-0!ab;9+0!ab;9+0!ab;1-9!ef;";

    public static void main(String[] args) {
        newObject();
        sixtySigns();
        codes();
        wipes();
        signsOfHalvesAndLikings();
        signsOfTheUntold();
        signsOfFears();
        signsBehindTheLast();
        moreMustCome();
        theFirstOfTwoFaults();
        noSigns();
        sevenDogs();
        digits();
        fearedLetters();
        rollTakesAway();
        rollIsNew();
        heirs();
        nineAreKept();
        chains();
        roundabouts();
        theDead();
        DUE.end();
    }

    private static void newObject() {
        DUE.of("Nobody is on the ROLL");
        DogVotes x = new DogVotes();
        for (int what = 0; what <= 5; what++) {
            DUE.is("told(" + what + ")", x.told(what), what == 2 ? 2 : 0);
        }
        for (int dog = -1; dog <= 7; dog++) {
            DUE.is("dog(" + dog + ", 0)", x.dog(dog, 0), UNKNOWN);
            DUE.is("told(" + (10 + dog) + ")", x.told(10 + dog), OUTSIDE);
        }
        DUE.is("wipe", x.wipe(), 0);
        DUE.is("forget", x.forget(), 0);
        DUE.is("drop", x.drop(), 0);
        DUE.is("restore(0)", x.restore(0), DogVotes.STATE);
        DUE.is("restore(1)", x.restore(1), DogVotes.STATE);
    }

    private static void sixtySigns() {
        DUE.of("a PAD (60 SIGNS at most)");
        DogVotes x = new DogVotes();
        for (int k = 1; k <= 60; k++) {
            DUE.is("sign " + k, x.say(k <= 5 ? "3+2;9".charAt(k - 1) : '7'), k);
            DUE.is("told(0)", x.told(0), k);
        }
        DUE.is("sign 61", x.say('7'), DogVotes.FULL);
        DUE.is("told(0)", x.told(0), 60);
        DUE.is("fault", x.fault(), 5);
        DUE.is("wipe", x.wipe(), 60);
        DUE.is("first sign again", x.say('7'), 1);
        DUE.of("the longest ROLL that there is has 49 SIGNS");
        DogVotes y = new DogVotes();
        Due.write(y, LONGEST);
        DUE.is("told(0)", y.told(0), 49);
        DUE.is("roll", y.roll(), 7);
        DUE.is("FEARS of the last", y.dog(6, 2), 32 + 16);
    }

    private static void codes() {
        DUE.of("codes 33 to 126");
        for (int sign = -300; sign <= 700; sign++) {
            DogVotes x = new DogVotes();
            boolean is = sign >= 33 && sign <= 126;
            DUE.is("say(" + sign + ")", x.say(sign), is ? 1 : OUTSIDE);
            DUE.is("told(0) after say(" + sign + ")", x.told(0), is ? 1 : 0);
        }
    }

    private static void wipes() {
        DUE.of("Signs go: how many there were");
        for (int signs = 0; signs <= 60; signs += 20) {
            DogVotes x = Due.parish("3+2;");
            Due.write(x, "0".repeat(signs));
            DUE.is("fault", x.fault(), signs == 0 ? NONE : 0);
            DUE.is("wipe", x.wipe(), signs);
            DUE.is("wipe again", x.wipe(), 0);
            DUE.is("told(0)", x.told(0), 0);
            DUE.is("fault of none", x.fault(), NONE);
            DUE.is("the ROLL stands", x.told(1), 1);
            Due.write(x, "4+2;5-1;");
            DUE.is("nothing of what went is left", x.roll(), 2);
        }
    }

    /** Behind these signs just the allowed ones can stand, of all that there are. */
    private static void next(String before, String allowed) {
        for (int sign = 33; sign <= 126; sign++) {
            DogVotes x = new DogVotes();
            Due.write(x, before);
            x.say(sign);
            int place = before.length();
            boolean stands = allowed.indexOf(sign) >= 0;
            int open = sign == ';' ? NONE : place + 1;
            DUE.is(before + " and " + (char) sign, x.fault(), stands ? open : place);
            DUE.is(before + " and " + (char) sign + ", roll", x.roll() >= 0 ? 1 : 0, stands && sign == ';' ? 1 : 0);
        }
    }

    private static void signsOfHalvesAndLikings() {
        DUE.of("a digit 1 to 9 (its HALVES: half votes)");
        next("", DIGITS);
        next("3+2;", DIGITS);
        next("3?!bg;", DIGITS);
        DUE.of("then + or - .. or ?");
        next("1", "+-?");
        next("9", "+-?");
        next("3+2;4", "+-?");
        DUE.of("and a digit 0 to 9");
        next("1+", "0" + DIGITS);
        next("1-", "0" + DIGITS);
        DUE.of("then perhaps !, then ;");
        next("1+0", "!;");
        next("1-9", "!;");
        next("1?", "!;");
    }

    private static void signsOfTheUntold() {
        DUE.of("? (LIKING not told; 3 at most)");
        next("1?;1?;1", "+-?");
        next("1?;1?;1?", "!;");
        next("1?;1?;1?;1", "+-");
        next("1?;1+1;1?;1+1;1?;1+1;1", "+-");
        next("1?;1+1;1?;1+1;1-1;1+1;1", "+-?");
        DUE.is("three", Due.parish("1?;1?;1?;1+0;").told(5), 3);
        DUE.is("two", Due.parish("1?;1+0;1?;").told(5), 2);
        DUE.is("none", Due.parish("1+0;").told(5), 0);
    }

    private static void signsOfFears() {
        DUE.of("! and one letter or two, rising .. not its own; Letters are a to g");
        for (int dog = 0; dog < 7; dog++) {
            String before = "1+0;".repeat(dog) + "1+0!";
            String others = "abcdefg".replace("" + (char) ('a' + dog), "");
            next(before, others);
            for (char first : others.toCharArray()) {
                next(before + first, others.substring(others.indexOf(first) + 1) + ";");
            }
            next(before + others.substring(0, 2), ";");
            next(before + others.substring(4), ";");
        }
        next("1?!", "bcdefg");
        next("1?!b", "cdefg;");
        next("1?!bg", ";");
    }

    private static void signsBehindTheLast() {
        DUE.of("DOGS (a on, 7 at most)");
        next("1+0;".repeat(6), DIGITS);
        next("1+0;".repeat(7), "");
        next(LONG, "");
        next(LONGEST, "");
    }

    private static void moreMustCome() {
        DUE.of("the number of signs, if more must come");
        for (int signs = 0; signs <= LONG.length(); signs++) {
            String text = LONG.substring(0, signs);
            boolean ends = text.isEmpty() || text.endsWith(";");
            DogVotes x = new DogVotes();
            Due.write(x, text);
            DUE.is("fault of " + text, x.fault(), ends ? NONE : signs);
            DUE.is("roll of " + text, x.roll(), ends ? text.split(";", -1).length - 1 : DogVotes.NO);
            DUE.is("signs left of " + text, x.told(0), ends ? 0 : signs);
        }
    }

    private static void theFirstOfTwoFaults() {
        DUE.of("the place (from 0 on) of the first sign that can not stand there");
        fault("0+", 0);
        fault("00", 0);
        fault("1x+x", 1);
        fault("1+x;x", 2);
        fault("1+0x!x", 3);
        fault("1+0;x;", 4);
        fault("1+0;1?;x", 7);
        fault("1+0;".repeat(8) + "x", 28);
        fault("1?;1?;1?;1?;0", 10);
        fault("1+0!b" + "z".repeat(55), 5);
        fault("1+0;".repeat(6) + "1+0!abc" + ";".repeat(29), 30);
    }

    private static void fault(String text, int want) {
        DogVotes x = new DogVotes();
        Due.write(x, text);
        DUE.is("fault of " + text, x.fault(), want);
        DUE.is("roll of " + text, x.roll(), DogVotes.NO);
        DUE.is("signs of " + text, x.told(0), text.length());
        DUE.is("fault of " + text + " again", x.fault(), want);
    }

    private static void noSigns() {
        DUE.of("no signs are a ROLL of nobody, as at first");
        DogVotes x = new DogVotes();
        DUE.is("fault", x.fault(), NONE);
        DUE.is("DOGS", x.told(1), 0);
        DUE.is("roll", x.roll(), 0);
        Due.write(x, LONG);
        DUE.is("roll of seven", x.roll(), 7);
        DUE.is("roll of no signs", x.roll(), 0);
        DUE.is("DOGS", x.told(1), 0);
        DUE.is("not told", x.told(5), 0);
        DUE.is("HEIRS", x.told(10), OUTSIDE);
        DUE.is("HALVES LEFT", x.vote(20, 0, 0), 0);
        DUE.is("HALVES RIGHT", x.vote(0, 20, 1), 0);
        DUE.is("a TIE", x.vote(0, 0, 2), 2);
        DUE.is("FITS", x.fits(-1), 1);
        DUE.holds("all is as at first", Portrait.of(x).equals(Portrait.of(new DogVotes())));
    }

    private static void sevenDogs() {
        DUE.of("DOGS (a on, 7 at most)");
        for (int dogs = 0; dogs <= 7; dogs++) {
            DogVotes x = new DogVotes();
            Due.write(x, "1+0;".repeat(dogs));
            DUE.is("roll", x.roll(), dogs);
            DUE.is("told(1)", x.told(1), dogs);
            for (int dog = -1; dog <= 8; dog++) {
                boolean is = dog >= 0 && dog < dogs;
                DUE.is("dog(" + dog + ", 0) of " + dogs, x.dog(dog, 0), is ? 1 : UNKNOWN);
                DUE.is("told(" + (10 + dog) + ") of " + dogs, x.told(10 + dog), is ? NONE : OUTSIDE);
            }
        }
        DogVotes y = new DogVotes();
        Due.write(y, "1+0;".repeat(8));
        DUE.is("fault of eight", y.fault(), 28);
        DUE.is("roll of eight", y.roll(), DogVotes.NO);
        DUE.is("nobody is on it", y.told(1), 0);
    }

    private static void digits() {
        DUE.of("Of a DOG: 0 HALVES, 1 LIKING and 9 (NONE: not told)");
        for (int digit = 0; digit <= 9; digit++) {
            DogVotes x = Due.parish("9+" + digit + ";1-" + digit + ";" + Math.max(1, digit) + "?;");
            DUE.is("LIKING +" + digit, x.dog(0, 1), 9 + digit);
            DUE.is("LIKING -" + digit, x.dog(1, 1), 9 - digit);
            DUE.is("LIKING not told", x.dog(2, 1), NONE);
            DUE.is("HALVES", x.dog(2, 0), Math.max(1, digit));
            DUE.is("most HALVES", x.dog(0, 0), 9);
            DUE.is("least HALVES", x.dog(1, 0), 1);
        }
    }

    private static void fearedLetters() {
        DUE.of("2 whom it FEARS (bits 0 to 6); of DOGS of the ROLL or not");
        for (int one = 0; one < 7; one++) {
            for (int two = one; two < 7; two++) {
                String letters = "" + (char) ('a' + one) + (two == one ? "" : "" + (char) ('a' + two));
                int bits = 1 << one | 1 << two;
                for (int dog = 0; dog < 7; dog++) {
                    DogVotes x = new DogVotes();
                    Due.write(x, "1+0;".repeat(dog) + "1+0!" + letters + ";");
                    boolean own = one == dog || two == dog;
                    DUE.is("roll of " + letters + " of " + dog, x.roll(), own ? DogVotes.NO : dog + 1);
                    DUE.is("FEARS " + letters, x.dog(dog, 2), own ? UNKNOWN : bits);
                }
            }
        }
        DUE.is("FEARS nobody", Due.parish("1+0;").dog(0, 2), 0);
    }

    private static void rollTakesAway() {
        DUE.of("The PAD becomes the ROLL (it is empty then; HEIRS, COUNTS go)");
        DogVotes x = Due.parish("1?;1?;1?;1+0;1+0;1+0;1+0;");
        for (int dog = 0; dog < 7; dog++) {
            x.heir(dog, (dog + 3) % 7);
        }
        for (int k = 0; k < 6; k++) {
            x.counted(0, 0, 1);
        }
        x.dies(6);
        Due.write(x, "2+0;2+0;2+0;2+0;2+0;2+0;2?");
        DUE.is("roll with a FAULT", x.roll(), DogVotes.NO);
        DUE.is("signs stand", x.told(0), 26);
        DUE.is("HEIRS stand", x.told(16), 2);
        DUE.is("COUNTS stand", x.told(3), 6);
        DUE.is("not told stand", x.told(5), 3);
        DUE.is("the last sign", x.say(';'), 27);
        DUE.is("roll", x.roll(), 7);
        DUE.is("no signs", x.told(0), 0);
        DUE.is("no COUNTS", x.told(3), 0);
        DUE.is("a first COUNT", x.counted(0, 0, 14), 1);
        DUE.is("it holds", x.fits(-1), 10);
        DUE.is("not told", x.told(5), 1);
        for (int dog = 0; dog < 7; dog++) {
            DUE.is("no HEIR of " + dog, x.told(10 + dog), NONE);
            DUE.is("nobody is dead, " + dog, x.dog(dog, 0), 2);
        }
    }

    private static void rollIsNew() {
        DUE.of("The PAD becomes the ROLL: nothing of the one before it is left");
        DogVotes x = Due.parish("9-9!bc;9-9!ac;9-9!ab;9-9!a;9-9!a;9-9!a;9-9!a;");
        x.image(0);
        Due.write(x, "1?;2?;3?;4+0;");
        DUE.is("fault", x.fault(), NONE);
        DUE.is("a FAULT that is looked for changes nothing", x.dog(3, 0), 9);
        DUE.is("roll", x.roll(), 4);
        for (int dog = 0; dog < 4; dog++) {
            DUE.is("HALVES of " + dog, x.dog(dog, 0), dog + 1);
            DUE.is("FEARS of " + dog, x.dog(dog, 2), 0);
            DUE.is("goes, " + dog, x.goes(0, 0, dog), 0);
        }
        DUE.is("HALVES LEFT", x.vote(0, 0, 0), 10);
        DUE.is("all ways fit", x.fits(-1), 6859);
        Due.write(x, "5+1;5x");
        DUE.is("fault", x.fault(), 5);
        DUE.is("roll with a FAULT", x.roll(), DogVotes.NO);
        DUE.is("HALVES LEFT", x.vote(0, 0, 0), 10);
        DUE.is("wipe", x.wipe(), 6);
        Due.write(x, "5?;");
        DUE.is("roll", x.roll(), 1);
        DUE.is("HALVES LEFT", x.vote(0, 0, 0), 5);
        DUE.is("all ways fit", x.fits(-1), 19);
    }

    private static void heirs() {
        DUE.of("A HEIR of a DOG: another one, or none (none at first); who it was (NONE)");
        for (int dog = 0; dog < 7; dog++) {
            DogVotes x = Due.parish("1+0;".repeat(7));
            int was = NONE;
            for (int other = -1; other < 7; other++) {
                DUE.is("told of " + dog, x.told(10 + dog), was);
                DUE.is("heir(" + dog + ", " + other + ")", x.heir(dog, other), other == dog ? UNKNOWN : was);
                was = other == dog ? was : other == -1 ? NONE : other;
            }
            DUE.is("heir(" + dog + ", 7)", x.heir(dog, 7), UNKNOWN);
            DUE.is("heir(" + dog + ", -2)", x.heir(dog, -2), UNKNOWN);
            DUE.is("told of " + dog, x.told(10 + dog), was);
            DUE.is("none again", x.heir(dog, -1), was);
            DUE.is("told of none", x.told(10 + dog), NONE);
            for (int other = 0; other < 7; other++) {
                DUE.is("no other has one", x.told(10 + other), NONE);
            }
        }
        DogVotes two = Due.parish("1+0;1+0;");
        DUE.is("heir(1, 2)", two.heir(1, 2), UNKNOWN);
        DUE.is("heir(2, 1)", two.heir(2, 1), UNKNOWN);
        DUE.is("heir(1, 0)", two.heir(1, 0), NONE);
        DUE.is("HEIRS of each other", two.heir(0, 1), NONE);
    }

    private static void nineAreKept() {
        DUE.of("its HEIR has them besides (9 at most are kept: what is more is lost)");
        for (int own = 1; own <= 9; own++) {
            for (int had = 1; had <= 9; had++) {
                DogVotes x = Due.parish(own + "+0;" + had + "+0;");
                x.heir(0, 1);
                DUE.is(own + " to " + had + ": lost", x.dies(0), Math.max(0, own + had - 9));
                DUE.is(own + " to " + had + ": kept", x.dog(1, 0), Math.min(9, own + had));
                DUE.is(own + " to " + had + ": the dead has none", x.dog(0, 0), 0);
            }
            DogVotes y = Due.parish(own + "+0;1+0;");
            DUE.is("no HEIR: all are lost", y.dies(0), own);
            DUE.is("the other has nothing of it", y.dog(1, 0), 1);
            DogVotes z = Due.parish(own + "+0;");
            DUE.is("nobody else", z.dies(0), own);
        }
    }

    /** From a on each is the HEIR of the one before; all between a and the last are dead. */
    private static void chains() {
        DUE.of("unless it is dead itself: then that one's HEIR, and so on");
        for (int last = 1; last <= 6; last++) {
            DogVotes x = Due.parish("5+0;" + "1+0;".repeat(5) + "3+0;");
            for (int dog = 1; dog < last; dog++) {
                x.dies(dog);
            }
            for (int dog = 0; dog < last; dog++) {
                x.heir(dog, dog + 1);
            }
            int had = last == 6 ? 3 : 1;
            DUE.is("through " + (last - 1) + " dead: lost", x.dies(0), 0);
            DUE.is("through " + (last - 1) + " dead: the last has", x.dog(last, 0), had + 5);
        }
        DUE.of("they are lost, if nobody is left");
        for (int last = 1; last <= 6; last++) {
            DogVotes y = Due.parish("5+0;" + "1+0;".repeat(5) + "3+0;");
            for (int dog = 0; dog < last; dog++) {
                y.heir(dog, dog + 1);
            }
            for (int dog = 1; dog <= last; dog++) {
                y.dies(dog);
            }
            DUE.is("through " + last + " dead: lost", y.dies(0), 5);
        }
    }

    private static void roundabouts() {
        DUE.of("they are lost .. or it comes round");
        for (int first = 0; first <= 5; first++) {
            for (int last = first + 1; last <= 6; last++) {
                DogVotes x = Due.parish("5+0;" + "1+0;".repeat(6));
                for (int dog = 1; dog <= last; dog++) {
                    x.dies(dog);
                }
                for (int dog = 0; dog < last; dog++) {
                    x.heir(dog, dog + 1);
                }
                x.heir(last, first);
                DUE.is("round from " + last + " to " + first, x.dies(0), 5);
                for (int dog = last + 1; dog < 7; dog++) {
                    DUE.is("who is not in it has nothing of it", x.dog(dog, 0), 1);
                }
            }
        }
        DogVotes y = Due.parish("5+0;2+0;1+0;");
        y.heir(0, 1);
        y.heir(1, 0);
        DUE.is("to each other, one lives", y.dies(0), 0);
        DUE.is("it has", y.dog(1, 0), 7);
        DUE.is("to each other, none lives", y.dies(1), 7);
        DUE.is("the third has nothing of it", y.dog(2, 0), 1);
    }

    private static void theDead() {
        DUE.of("DIES: HALVES that were lost. STATE: it is dead");
        DogVotes x = Due.parish("5+3!b;2?;1-9;");
        x.heir(1, 0);
        x.dies(1);
        DUE.is("dies again", x.dies(1), DogVotes.STATE);
        DUE.is("its HALVES", x.dog(1, 0), 0);
        DUE.is("its LIKING", x.dog(1, 1), NONE);
        DUE.is("its HEIR", x.told(11), 0);
        DUE.is("DOGS", x.told(1), 3);
        DUE.is("not told", x.told(5), 1);
        DUE.of("A dead DOG does not go: it is at HOME");
        for (int l = 0; l <= 20; l += 10) {
            DUE.is("goes(" + l + ", 10, 1)", x.goes(l, 10, 1), 2);
        }
        DUE.is("the first one FEARS it and goes LEFT", x.goes(0, 0, 0), 0);
        DUE.is("HALVES LEFT", x.vote(0, 0, 0), 7);
        DUE.is("HALVES RIGHT", x.vote(0, 0, 1), 1);
        DUE.of("an HEIR of a dead DOG, a dead DOG as HEIR");
        DUE.is("another HEIR of the dead", x.heir(1, 2), 0);
        DUE.is("the dead as HEIR", x.heir(0, 1), NONE);
        DUE.is("by it to the third", x.dies(0), 0);
        DUE.is("the third has", x.dog(2, 0), 8);
    }
}
