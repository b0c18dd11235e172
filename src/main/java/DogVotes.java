/** A parish in which dogs cast the votes of the dead. The document (DOC.md) says what each call promises. */
public final class DogVotes {
    public static final int NONE = -6, UNKNOWN = -1, OUTSIDE = -2, STATE = -3, FULL = -4, NO = -5;
    public static final long LOST = -1000000000000000000L;

    private static final int MOST_SIGNS = 60, FIRST_SIGN = 33, LAST_SIGN = 126;
    private static final int MOST_DOGS = 7, MOST_UNTOLD = 3, MOST_HALVES = 9, MOST_LIKING = 9;
    private static final int LIKINGS = 2 * MOST_LIKING + 1;
    private static final int MOST_LIVER = 20, MOST_OFFER = 9, OFFERS = MOST_OFFER + 1;
    private static final int MOST_COUNTS = 6, MOST_COUNTED = 63;
    private static final int MOST_QUESTIONS = 5, MOST_WORTH = 99;
    private static final int FIRST_HUNGER = 2, MOST_HUNGER = 9;
    private static final int MOST_SEED = 9999, MOST_NIGHT = 60;
    private static final int IMAGES = 2;
    private static final int FIRST_HEIR_TOLD = 10;
    private static final int HOW_MANY = -1;

    private static final int NOBODY = -1;
    private static final int LEFT = 0, RIGHT = 1, HOME = 2, TIE = 2;

    private static final int[] FACTORIALS = {1, 1, 2, 6, 24, 120, 720, 5040};

    private final Pad pad;
    private final Parish parish;
    private final Parish[] images;
    private int keptImages;
    private final Ballot ballot;
    private final Bargain bargain;
    private final Gate gate;
    private final Guesses guesses;
    private final Evenings evenings;

    public DogVotes() {
        pad = new Pad();
        parish = new Parish();
        images = new Parish[IMAGES];
        for (int n = 0; n < IMAGES; n++) {
            images[n] = new Parish();
        }
        ballot = new Ballot();
        bargain = new Bargain();
        gate = new Gate();
        guesses = new Guesses();
        evenings = new Evenings();
    }

    // ---- 1 rolls

    public int say(int sign) {
        if (sign < FIRST_SIGN || sign > LAST_SIGN) {
            return OUTSIDE;
        }
        return pad.add(sign) ? pad.size : FULL;
    }

    public int wipe() {
        int before = pad.size;
        pad.size = 0;
        return before;
    }

    public int fault() {
        return pad.firstFault();
    }

    public int roll() {
        if (pad.firstFault() != NONE) {
            return NO;
        }
        parish.roll.copyFrom(pad.draft);
        parish.counts.size = 0;
        pad.size = 0;
        changed();
        return parish.roll.dogs;
    }

    public int dog(int dog, int what) {
        Roll roll = parish.roll;
        if (!roll.has(dog)) {
            return UNKNOWN;
        }
        switch (what) {
            case 0:
                return roll.halves[dog];
            case 1:
                return roll.isTold(dog) ? roll.likings[dog] + MOST_LIKING : NONE;
            case 2:
                return roll.fears[dog];
            default:
                return OUTSIDE;
        }
    }

    public int heir(int dog, int other) {
        Roll roll = parish.roll;
        if (!roll.has(dog) || dog == other || other != NOBODY && !roll.has(other)) {
            return UNKNOWN;
        }
        int before = roll.heirs[dog];
        roll.heirs[dog] = other;
        return heirTold(before);
    }

    public int dies(int dog) {
        Roll roll = parish.roll;
        if (!roll.has(dog)) {
            return UNKNOWN;
        }
        if (roll.isDead(dog)) {
            return STATE;
        }
        changed();
        return roll.bury(dog);
    }

    // ---- 2 votes

    public int goes(int l, int r, int dog) {
        if (!parish.roll.has(dog)) {
            return UNKNOWN;
        }
        if (!areLivers(l, r)) {
            return OUTSIDE;
        }
        ballot.hold(parish.roll, l - r, 0, 0);
        return ballot.placeOf(dog);
    }

    public int vote(int l, int r, int what) {
        if (!areLivers(l, r) || !isWithin(what, 2)) {
            return OUTSIDE;
        }
        ballot.hold(parish.roll, l - r, 0, 0);
        switch (what) {
            case 0:
                return ballot.left;
            case 1:
                return ballot.right;
            default:
                return ballot.winner();
        }
    }

    public int stolen(int l, int r) {
        if (!areLivers(l, r)) {
            return OUTSIDE;
        }
        ballot.hold(parish.roll, l - r, 0, 0);
        int winner = ballot.winner();
        int bits = 0;
        for (int dog = 0; dog < parish.roll.dogs; dog++) {
            ballot.hold(parish.roll, l - r, 1 << dog, 0);
            if (ballot.winner() != winner) {
                bits |= 1 << dog;
            }
        }
        return bits;
    }

    public int won(int r) {
        if (!isWithin(r, MOST_LIVER)) {
            return OUTSIDE;
        }
        for (int l = 0; l <= MOST_LIVER; l++) {
            ballot.hold(parish.roll, l - r, 0, 0);
            if (ballot.winner() == LEFT) {
                return l;
            }
        }
        return NONE;
    }

    public int rests(int i) {
        if (i < HOW_MANY) {
            return NONE;
        }
        bargain.learn(parish.roll);
        int found = 0;
        for (int offers = 0; offers < OFFERS * OFFERS; offers++) {
            if (bargain.bothRest(offers / OFFERS, offers % OFFERS)) {
                if (found == i) {
                    return offers;
                }
                found++;
            }
        }
        return i == HOW_MANY ? found : NONE;
    }

    public int letOut(int l, int r, int i) {
        if (!areLivers(l, r)) {
            return OUTSIDE;
        }
        gate.find(parish.roll, l - r);
        if (i == HOW_MANY) {
            return gate.most;
        }
        return i >= 0 && i < parish.roll.dogs ? gate.order[i] : NONE;
    }

    // ---- 3 who decides

    public int swings(int dog) {
        return parish.roll.has(dog) ? Deciders.decisions(parish.roll, dog, false) : UNKNOWN;
    }

    public long turn(int dog, int part) {
        if (!parish.roll.has(dog)) {
            return LOST + UNKNOWN;
        }
        if (!isWithin(part, 1)) {
            return LOST + OUTSIDE;
        }
        int upper = Deciders.decisions(parish.roll, dog, true);
        int lower = factorial(Integer.bitCount(parish.roll.living()));
        int common = Math.max(1, Deciders.commonDivisor(lower, upper));
        return (part == 0 ? upper : lower) / common;
    }

    // ---- 4 counts

    public int counted(int l, int r, int halves) {
        if (!areLivers(l, r) || !isWithin(halves, MOST_COUNTED)) {
            return OUTSIDE;
        }
        if (!parish.counts.add(l, r, halves)) {
            return FULL;
        }
        changed();
        return parish.counts.size;
    }

    public int forget() {
        int before = parish.counts.size;
        parish.counts.size = 0;
        changed();
        return before;
    }

    public int fits(int i) {
        guesses.find(parish.roll, parish.counts);
        if (i == HOW_MANY) {
            return guesses.ways;
        }
        if (i < 0 || i >= guesses.size || guesses.ways == 0) {
            return NONE;
        }
        return guesses.first[i] + MOST_LIKING;
    }

    public int liking(int dog, int what) {
        if (!parish.roll.has(dog) || parish.roll.isTold(dog)) {
            return UNKNOWN;
        }
        if (!isWithin(what, 1)) {
            return OUTSIDE;
        }
        guesses.find(parish.roll, parish.counts);
        if (guesses.ways == 0) {
            return STATE;
        }
        return (what == 0 ? guesses.least[dog] : guesses.greatest[dog]) + MOST_LIKING;
    }

    // ---- 5 evenings

    public int ask(int l, int r, int worth) {
        if (!areLivers(l, r) || !isWithin(worth, MOST_WORTH)) {
            return OUTSIDE;
        }
        if (!parish.questions.add(l, r, worth)) {
            return FULL;
        }
        changed();
        return parish.questions.size;
    }

    public int drop() {
        int before = parish.questions.size;
        parish.questions.size = 0;
        changed();
        return before;
    }

    public int hunger(int v) {
        if (v < 1 || v > MOST_HUNGER) {
            return OUTSIDE;
        }
        int before = parish.hunger;
        parish.hunger = v;
        changed();
        return before;
    }

    public int best(int i) {
        evenings.find(parish);
        if (i == HOW_MANY) {
            return evenings.most;
        }
        return i >= 0 && i < parish.questions.size ? evenings.order[i] : NONE;
    }

    public int night(int seed, int n, int what) {
        if (!isWithin(seed, MOST_SEED) || n < 1 || n > MOST_NIGHT || !isWithin(what, 2)) {
            return OUTSIDE;
        }
        int x = seed;
        int times = 0;
        for (int k = 0; k < n; k++) {
            x = (75 * x + 74) % 65537;
            ballot.hold(parish.roll, x % 10 - x / 10 % 10, 0, 0);
            if (ballot.winner() == what) {
                times++;
            }
        }
        return times;
    }

    public int image(int n) {
        if (!isWithin(n, IMAGES - 1)) {
            return OUTSIDE;
        }
        images[n].copyFrom(parish);
        keptImages |= 1 << n;
        return 1;
    }

    public int restore(int n) {
        if (!isWithin(n, IMAGES - 1)) {
            return OUTSIDE;
        }
        if ((keptImages >> n & 1) == 0) {
            return STATE;
        }
        parish.copyFrom(images[n]);
        changed();
        return 1;
    }

    public int told(int what) {
        switch (what) {
            case 0:
                return pad.size;
            case 1:
                return parish.roll.dogs;
            case 2:
                return parish.hunger;
            case 3:
                return parish.counts.size;
            case 4:
                return parish.questions.size;
            case 5:
                return Integer.bitCount(parish.roll.untold);
            default:
                int dog = what - FIRST_HEIR_TOLD;
                return parish.roll.has(dog) ? heirTold(parish.roll.heirs[dog]) : OUTSIDE;
        }
    }

    /** The long searches keep what they found; whatever a search may rest on calls this. */
    private void changed() {
        gate.known = false;
        guesses.known = false;
        evenings.known = false;
    }

    private static boolean isWithin(int number, int most) {
        return number >= 0 && number <= most;
    }

    private static boolean areLivers(int l, int r) {
        return isWithin(l, MOST_LIVER) && isWithin(r, MOST_LIVER);
    }

    private static int heirTold(int heir) {
        return heir == NOBODY ? NONE : heir;
    }

    private static int factorial(int number) {
        return number >= 0 && number < FACTORIALS.length ? FACTORIALS[number] : 1;
    }

    /** The signs said so far, and the ROLL that they tell as far as they have been read. */
    private static final class Pad {
        private static final int HALVES = 0, LIKES = 1, DIGIT = 2, LIKED = 3, FEARED = 4, MORE_FEARED = 5, END = 6;

        final int[] signs = new int[MOST_SIGNS];
        int size;
        final Roll draft = new Roll();
        private int expected;
        private boolean isLess;
        private int lastFeared;

        boolean add(int sign) {
            if (size >= MOST_SIGNS) {
                return false;
            }
            signs[size] = sign;
            size++;
            return true;
        }

        int firstFault() {
            draft.clear();
            expected = HALVES;
            for (int place = 0; place < size; place++) {
                if (!takes(signs[place])) {
                    return place;
                }
            }
            return expected == HALVES ? NONE : size;
        }

        private boolean takes(int sign) {
            switch (expected) {
                case HALVES:
                    return takesHalves(sign);
                case LIKES:
                    return takesLikes(sign);
                case DIGIT:
                    return takesDigit(sign);
                case LIKED:
                    return sign == '!' ? takesFearMark() : takesEnd(sign);
                case FEARED:
                    return takesFeared(sign);
                case MORE_FEARED:
                    return takesFeared(sign) || takesEnd(sign);
                default:
                    return takesEnd(sign);
            }
        }

        private boolean takesHalves(int sign) {
            if (draft.dogs >= MOST_DOGS || sign < '1' || sign > '9') {
                return false;
            }
            draft.halves[draft.dogs] = sign - '0';
            expected = LIKES;
            return true;
        }

        private boolean takesLikes(int sign) {
            if (sign == '?' && Integer.bitCount(draft.untold) < MOST_UNTOLD) {
                draft.untold |= 1 << draft.dogs;
                expected = LIKED;
                return true;
            }
            if (sign != '+' && sign != '-') {
                return false;
            }
            isLess = sign == '-';
            expected = DIGIT;
            return true;
        }

        private boolean takesDigit(int sign) {
            if (draft.dogs >= MOST_DOGS || sign < '0' || sign > '9') {
                return false;
            }
            draft.likings[draft.dogs] = isLess ? '0' - sign : sign - '0';
            expected = LIKED;
            return true;
        }

        private boolean takesFearMark() {
            lastFeared = NOBODY;
            expected = FEARED;
            return true;
        }

        private boolean takesFeared(int sign) {
            int feared = sign - 'a';
            if (draft.dogs >= MOST_DOGS || feared <= lastFeared || feared >= MOST_DOGS || feared == draft.dogs) {
                return false;
            }
            draft.fears[draft.dogs] |= 1 << feared;
            lastFeared = feared;
            expected = expected == FEARED ? MORE_FEARED : END;
            return true;
        }

        private boolean takesEnd(int sign) {
            if (sign != ';') {
                return false;
            }
            draft.dogs++;
            expected = HALVES;
            return true;
        }
    }

    /** The DOGS with all that is told of them; a LIKING that is not told stands as 0. */
    private static final class Roll {
        int dogs;
        int untold;
        final int[] halves = new int[MOST_DOGS];
        final int[] likings = new int[MOST_DOGS];
        final int[] fears = new int[MOST_DOGS];
        final int[] heirs = new int[MOST_DOGS];

        void clear() {
            dogs = 0;
            untold = 0;
            for (int dog = 0; dog < MOST_DOGS; dog++) {
                halves[dog] = 0;
                likings[dog] = 0;
                fears[dog] = 0;
                heirs[dog] = NOBODY;
            }
        }

        void copyFrom(Roll other) {
            dogs = other.dogs;
            untold = other.untold;
            System.arraycopy(other.halves, 0, halves, 0, MOST_DOGS);
            System.arraycopy(other.likings, 0, likings, 0, MOST_DOGS);
            System.arraycopy(other.fears, 0, fears, 0, MOST_DOGS);
            System.arraycopy(other.heirs, 0, heirs, 0, MOST_DOGS);
        }

        boolean has(int dog) {
            return dog >= 0 && dog < dogs;
        }

        boolean isTold(int dog) {
            return (untold >> dog & 1) == 0;
        }

        boolean isDead(int dog) {
            return halves[dog] == 0;
        }

        int living() {
            int bits = 0;
            for (int dog = 0; dog < dogs; dog++) {
                if (!isDead(dog)) {
                    bits |= 1 << dog;
                }
            }
            return bits;
        }

        int halvesOf(int bits) {
            int sum = 0;
            for (int dog = 0; dog < dogs; dog++) {
                if ((bits >> dog & 1) == 1) {
                    sum += halves[dog];
                }
            }
            return sum;
        }

        int bury(int dog) {
            int free = halves[dog];
            halves[dog] = 0;
            int taker = livingHeirOf(dog);
            if (taker == NOBODY) {
                return free;
            }
            int sum = halves[taker] + free;
            halves[taker] = Math.min(sum, MOST_HALVES);
            return sum - halves[taker];
        }

        private int livingHeirOf(int dog) {
            int next = heirs[dog];
            // As many steps as there are DOGS, all among the dead, have come round.
            for (int step = 0; step < dogs && has(next); step++) {
                if (!isDead(next)) {
                    return next;
                }
                next = heirs[next];
            }
            return NOBODY;
        }
    }

    /** Rows of LIVER left, LIVER right and a number: COUNTS with their HALVES, QUESTIONS with their worths. */
    private static final class Rows {
        int size;
        final int[] lefts;
        final int[] rights;
        final int[] numbers;

        Rows(int most) {
            int length = Math.max(0, most);
            lefts = new int[length];
            rights = new int[length];
            numbers = new int[length];
        }

        boolean add(int l, int r, int number) {
            if (size >= numbers.length) {
                return false;
            }
            lefts[size] = l;
            rights[size] = r;
            numbers[size] = number;
            size++;
            return true;
        }

        void copyFrom(Rows other) {
            size = 0;
            for (int row = 0; row < other.size; row++) {
                add(other.lefts[row], other.rights[row], other.numbers[row]);
            }
        }
    }

    /** All that an IMAGE keeps. */
    private static final class Parish {
        final Roll roll = new Roll();
        final Rows counts = new Rows(MOST_COUNTS);
        final Rows questions = new Rows(MOST_QUESTIONS);
        int hunger = FIRST_HUNGER;

        void copyFrom(Parish other) {
            roll.copyFrom(other.roll);
            counts.copyFrom(other.counts);
            questions.copyFrom(other.questions);
            hunger = other.hunger;
        }
    }

    /** One VOTE. Of both LIVERS only what the left one is more (the lead) has a part in it. */
    private static final class Ballot {
        int left;
        int right;
        int leftDogs;
        int rightDogs;

        void open() {
            left = 0;
            right = 0;
            leftDogs = 0;
            rightDogs = 0;
        }

        void hold(Roll roll, int lead, int absent, int full) {
            open();
            for (int dog = 0; dog < roll.dogs; dog++) {
                if ((absent >> dog & 1) == 0) {
                    send(roll, dog, (full >> dog & 1) == 0 ? lead : 0);
                }
            }
        }

        void send(Roll roll, int dog, int lead) {
            if (!roll.has(dog) || roll.isDead(dog)) {
                return;
            }
            int pull = roll.likings[dog] + lead;
            boolean wantsLeft = pull > 0 || pull == 0 && left >= right;
            boolean dreadsLeft = (roll.fears[dog] & leftDogs) != 0;
            boolean dreadsRight = (roll.fears[dog] & rightDogs) != 0;
            if (!dreadsLeft && (wantsLeft || dreadsRight)) {
                leftDogs |= 1 << dog;
                left += roll.halves[dog];
            } else if (!dreadsRight) {
                rightDogs |= 1 << dog;
                right += roll.halves[dog];
            }
        }

        int placeOf(int dog) {
            if ((leftDogs >> dog & 1) == 1) {
                return LEFT;
            }
            return (rightDogs >> dog & 1) == 1 ? RIGHT : HOME;
        }

        int winner() {
            if (left == right) {
                return TIE;
            }
            return left > right ? LEFT : RIGHT;
        }
    }

    /** What both parties have by each pair of offers. */
    private static final class Bargain {
        private static final int WINS = 20, TIES = 10;

        private final Ballot ballot = new Ballot();
        private final int[] winners = new int[2 * MOST_OFFER + 1];

        void learn(Roll roll) {
            for (int lead = -MOST_OFFER; lead <= MOST_OFFER; lead++) {
                ballot.hold(roll, lead, 0, 0);
                winners[lead + MOST_OFFER] = ballot.winner();
            }
        }

        boolean bothRest(int l, int r) {
            int leftHas = has(LEFT, l, r);
            int rightHas = has(RIGHT, l, r);
            for (int other = 0; other <= MOST_OFFER; other++) {
                if (has(LEFT, other, r) > leftHas || has(RIGHT, l, other) > rightHas) {
                    return false;
                }
            }
            return true;
        }

        private int has(int party, int l, int r) {
            int at = l - r + MOST_OFFER;
            int winner = at >= 0 && at < winners.length ? winners[at] : TIE;
            int offer = party == LEFT ? l : r;
            if (winner == party) {
                return WINS - offer;
            }
            return winner == TIE ? TIES - offer : -offer;
        }
    }

    /** All orders of the numbers from 0 on, one after another as a dictionary has them. */
    private static final class Orders {
        int size;
        final int[] order = new int[MOST_DOGS];

        int begin(int wanted) {
            size = Math.max(0, Math.min(wanted, MOST_DOGS));
            for (int k = 0; k < size; k++) {
                order[k] = k;
            }
            return factorial(size);
        }

        void advance() {
            int rise = size - 2;
            while (rise >= 0 && order[rise] > order[rise + 1]) {
                rise--;
            }
            if (rise < 0) {
                return;
            }
            int above = size - 1;
            while (above > rise && order[above] < order[rise]) {
                above--;
            }
            swap(rise, above);
            for (int low = rise + 1, high = size - 1; low < high; low++, high--) {
                swap(low, high);
            }
        }

        private void swap(int one, int two) {
            int kept = order[one];
            order[one] = order[two];
            order[two] = kept;
        }
    }

    /** LET OUT: the order of DOGS that is best for LEFT. */
    private static final class Gate {
        boolean known;
        private int knownLead;
        int most;
        final int[] order = new int[MOST_DOGS];
        private final Orders orders = new Orders();
        private final Ballot ballot = new Ballot();

        void find(Roll roll, int lead) {
            if (known && knownLead == lead) {
                return;
            }
            most = -1;
            int all = roll.halvesOf(roll.living());
            int count = orders.begin(roll.dogs);
            for (int k = 0; k < count && most < all; k++) {
                keepIfMore(roll, lead);
                orders.advance();
            }
            known = true;
            knownLead = lead;
        }

        private void keepIfMore(Roll roll, int lead) {
            ballot.open();
            for (int k = 0; k < orders.size; k++) {
                ballot.send(roll, orders.order[k], lead);
            }
            if (ballot.left > most) {
                most = ballot.left;
                System.arraycopy(orders.order, 0, order, 0, MOST_DOGS);
            }
        }
    }

    /** How often one DOG is the one who decides. */
    private static final class Deciders {
        /** The sets of others with which it decides; or the orders in which they come before it and behind it. */
        static int decisions(Roll roll, int dog, boolean byOrders) {
            int all = roll.halvesOf(roll.living());
            int others = roll.living() & ~(1 << dog);
            int count = 0;
            for (int before = 0; before < 1 << roll.dogs; before++) {
                if ((before & ~others) == 0 && decides(roll.halvesOf(before), roll.halves[dog], all)) {
                    count += byOrders ? ordersAround(before, others & ~before) : 1;
                }
            }
            return count;
        }

        // LEFT wins just when it has more than half of all, so SWINGS and TURNS ask for the same thing.
        private static boolean decides(int before, int own, int all) {
            return 2 * before <= all && 2 * (before + own) > all;
        }

        private static int ordersAround(int before, int behind) {
            return factorial(Integer.bitCount(before)) * factorial(Integer.bitCount(behind));
        }

        static int commonDivisor(int one, int two) {
            // No number here is above 5040: far fewer steps than these bring the rest to 0.
            for (int step = 0; step < 64 && two > 0; step++) {
                int rest = one % two;
                one = two;
                two = rest;
            }
            return one;
        }
    }

    /** FITS: all ways to write the LIKINGS that are not told. */
    private static final class Guesses {
        boolean known;
        int ways;
        int size;
        private final int[] untold = new int[MOST_DOGS];
        final int[] first = new int[MOST_DOGS];
        final int[] least = new int[MOST_DOGS];
        final int[] greatest = new int[MOST_DOGS];
        private final Roll guess = new Roll();
        private final Ballot ballot = new Ballot();

        void find(Roll roll, Rows counts) {
            if (known) {
                return;
            }
            guess.copyFrom(roll);
            ways = 0;
            int all = listUntold();
            for (int way = 0; way < all; way++) {
                write(way);
                if (holds(counts)) {
                    note();
                }
            }
            known = true;
        }

        /** How many ways there are to write all that is not told. */
        private int listUntold() {
            int all = 1;
            size = 0;
            for (int dog = 0; dog < guess.dogs; dog++) {
                if (!guess.isTold(dog)) {
                    untold[size] = dog;
                    size++;
                    all *= LIKINGS;
                }
            }
            return all;
        }

        private void write(int way) {
            int rest = way;
            for (int k = size - 1; k >= 0; k--) {
                guess.likings[untold[k]] = rest % LIKINGS - MOST_LIKING;
                rest /= LIKINGS;
            }
        }

        private boolean holds(Rows counts) {
            for (int row = 0; row < counts.size; row++) {
                ballot.hold(guess, counts.lefts[row] - counts.rights[row], 0, 0);
                if (ballot.left != counts.numbers[row]) {
                    return false;
                }
            }
            return true;
        }

        private void note() {
            ways++;
            for (int k = 0; k < size; k++) {
                int dog = untold[k];
                int liking = guess.likings[dog];
                if (ways == 1) {
                    first[k] = liking;
                    least[dog] = liking;
                    greatest[dog] = liking;
                }
                least[dog] = Math.min(least[dog], liking);
                greatest[dog] = Math.max(greatest[dog], liking);
            }
        }
    }

    /** BEST: the order of QUESTIONS on one EVENING that is worth most to LEFT. */
    private static final class Evenings {
        boolean known;
        int most;
        final int[] order = new int[MOST_DOGS];
        private final Orders orders = new Orders();
        private final Ballot ballot = new Ballot();
        private final int[] meals = new int[MOST_DOGS];
        private int full;

        void find(Parish parish) {
            if (known) {
                return;
            }
            most = -1;
            int count = orders.begin(parish.questions.size);
            for (int k = 0; k < count; k++) {
                int worths = worthsOf(parish);
                if (worths > most) {
                    most = worths;
                    System.arraycopy(orders.order, 0, order, 0, MOST_DOGS);
                }
                orders.advance();
            }
            known = true;
        }

        private int worthsOf(Parish parish) {
            Rows questions = parish.questions;
            beHungry();
            int worths = 0;
            for (int k = 0; k < orders.size; k++) {
                int question = orders.order[k];
                if (question < 0 || question >= questions.size) {
                    continue;
                }
                int l = questions.lefts[question];
                int r = questions.rights[question];
                ballot.hold(parish.roll, l - r, 0, full);
                if (ballot.winner() == LEFT) {
                    worths += questions.numbers[question];
                }
                feed((l > 0 ? ballot.leftDogs : 0) | (r > 0 ? ballot.rightDogs : 0), parish.hunger);
            }
            return worths;
        }

        private void beHungry() {
            full = 0;
            for (int dog = 0; dog < MOST_DOGS; dog++) {
                meals[dog] = 0;
            }
        }

        private void feed(int eaters, int hunger) {
            for (int dog = 0; dog < MOST_DOGS; dog++) {
                meals[dog] += eaters >> dog & 1;
                if (meals[dog] >= hunger) {
                    full |= 1 << dog;
                }
            }
        }
    }
}
