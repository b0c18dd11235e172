/** All that an object can be asked: two objects with one and the same portrait can not be told from each other. */
final class Portrait {
    private final DogVotes x;
    private final StringBuilder seen = new StringBuilder();

    private Portrait(DogVotes x) {
        this.x = x;
    }

    /** It uses the object up, for what is hidden (PAD, IMAGES) is seen by taking it over; some 320 calls. */
    static String of(DogVotes x) {
        Portrait portrait = new Portrait(x);
        portrait.open();
        portrait.thePad();
        for (int n = 0; n < 2; n++) {
            portrait.add("restore", x.restore(n));
            portrait.open();
        }
        return portrait.seen.toString();
    }

    private void add(String what, long answer) {
        seen.append(what).append(' ').append(answer).append('\n');
    }

    private void open() {
        for (int what = 0; what < 17; what++) {
            add("told", x.told(what));
        }
        int dogs = x.told(1);
        for (int dog = 0; dog < dogs; dog++) {
            aDog(dog);
        }
        for (int lead = -10; lead <= 10; lead += 4) {
            add("vote", x.vote(Math.max(lead, 0), Math.max(-lead, 0), 0));
        }
        for (int i = -1; i < dogs; i++) {
            add("letOut", x.letOut(0, 0, i));
        }
        for (int i = -1; i < 3; i++) {
            add("fits", x.fits(i));
        }
        for (int i = -1; i < 5; i++) {
            add("best", x.best(i));
        }
    }

    private void aDog(int dog) {
        for (int what = 0; what < 3; what++) {
            add("dog", x.dog(dog, what));
        }
        for (int what = 0; what < 2; what++) {
            add("liking", x.liking(dog, what));
        }
    }

    /** An open end is closed first, so that as much as can be of its signs is seen as a ROLL. */
    private void thePad() {
        add("fault", x.fault());
        int dogs = x.roll();
        if (dogs == DogVotes.NO) {
            add("say", x.say(';'));
            dogs = x.roll();
        }
        add("roll", dogs);
        open();
        add("wipe", x.wipe());
    }
}
