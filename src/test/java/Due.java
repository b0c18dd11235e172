/** What the tests share: it prints each answer that is not the one that is due. */
final class Due {
    private final String name;
    private String sentence = "";
    private int asked;
    private int wrong;

    Due(String name) {
        this.name = name;
    }

    /** The words of the document that the answers from here on are held against. */
    void of(String words) {
        sentence = " [" + words + "]";
    }

    void is(String call, long got, long want) {
        asked++;
        if (got != want) {
            wrong++;
            System.out.println(name + sentence + ": " + call + " answered " + got + ", due is " + want);
        }
    }

    void holds(String what, boolean so) {
        is(what, so ? 1 : 0, 1);
    }

    void end() {
        System.out.println(name + ": " + asked + " answers, " + wrong + " not as due");
        if (wrong != 0 || asked == 0) {
            System.exit(1);
        }
    }

    static void write(DogVotes x, String text) {
        for (char sign : text.toCharArray()) {
            x.say(sign);
        }
    }

    static DogVotes parish(String text) {
        DogVotes x = new DogVotes();
        write(x, text);
        if (x.roll() < 0) {
            throw new IllegalArgumentException("no ROLL: " + text);
        }
        return x;
    }
}
