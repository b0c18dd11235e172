import java.util.ArrayList;
import java.util.List;
import java.util.TreeSet;
import java.util.regex.Matcher;
import java.util.regex.Pattern;

/** The document once more, slowly and in another way, to hold DogVotes against: texts, lists and all orders. */
final class PlainVotes {
    private static final int NONE = -6, UNKNOWN = -1, OUTSIDE = -2, STATE = -3, FULL = -4, NO = -5;
    private static final long LOST = -1000000000000000000L;
    private static final Pattern ROLL = Pattern.compile(rollFrom(0));
    private static final Pattern ONE = Pattern.compile("([1-9])(\\?|[+-][0-9])(?:!([a-g]+))?;");

    private static final class Hound {
        int halves;
        Integer liking;
        String fears = "";
        int heir = -1;

        Hound twin() {
            Hound other = new Hound();
            other.halves = halves;
            other.liking = liking;
            other.fears = fears;
            other.heir = heir;
            return other;
        }
    }

    private static final class Kept {
        List<Hound> hounds = new ArrayList<>();
        List<int[]> counts = new ArrayList<>();
        List<int[]> questions = new ArrayList<>();
        int hunger = 2;

        Kept twin() {
            Kept other = new Kept();
            for (Hound hound : hounds) {
                other.hounds.add(hound.twin());
            }
            other.counts.addAll(counts);
            other.questions.addAll(questions);
            other.hunger = hunger;
            return other;
        }
    }

    private String pad = "";
    private Kept now = new Kept();
    private final Kept[] images = new Kept[2];

    private static String rollFrom(int dog) {
        if (dog == 7) {
            return "";
        }
        StringBuilder fears = new StringBuilder();
        for (char one = 'a'; one <= 'g'; one++) {
            for (char two = one; two <= 'g'; two++) {
                if (one != 'a' + dog && two != 'a' + dog) {
                    fears.append(fears.length() == 0 ? "" : "|").append(one).append(two == one ? "" : String.valueOf(two));
                }
            }
        }
        return "(?:[1-9](?:[+-][0-9]|\\?)(?:!(?:" + fears + "))?;" + rollFrom(dog + 1) + ")?";
    }

    private static boolean canBegin(String text) {
        Matcher matcher = ROLL.matcher(text);
        boolean fits = matcher.matches() || matcher.hitEnd();
        return fits && text.chars().filter(c -> c == '?').count() <= 3;
    }

    int say(int sign) {
        if (sign < 33 || sign > 126) return OUTSIDE;
        if (pad.length() == 60) return FULL;
        pad += (char) sign;
        return pad.length();
    }

    int wipe() {
        int before = pad.length();
        pad = "";
        return before;
    }

    int fault() {
        for (int place = 0; place < pad.length(); place++) {
            if (!canBegin(pad.substring(0, place + 1))) return place;
        }
        return ROLL.matcher(pad).matches() ? NONE : pad.length();
    }

    int roll() {
        if (fault() != NONE) return NO;
        now.hounds.clear();
        now.counts.clear();
        Matcher matcher = ONE.matcher(pad);
        while (matcher.find()) {
            Hound hound = new Hound();
            hound.halves = Integer.parseInt(matcher.group(1));
            hound.liking = matcher.group(2).equals("?") ? null : Integer.valueOf(matcher.group(2));
            hound.fears = matcher.group(3) == null ? "" : matcher.group(3);
            now.hounds.add(hound);
        }
        pad = "";
        return now.hounds.size();
    }

    private boolean is(int dog) {
        return dog >= 0 && dog < now.hounds.size();
    }

    int dog(int dog, int what) {
        if (!is(dog)) return UNKNOWN;
        if (what < 0 || what > 2) return OUTSIDE;
        Hound hound = now.hounds.get(dog);
        if (what == 0) return hound.halves;
        if (what == 1) return hound.liking == null ? NONE : hound.liking + 9;
        return hound.fears.chars().map(c -> 1 << c - 'a').sum();
    }

    int heir(int dog, int other) {
        if (!is(dog) || !is(other) && other != -1 || dog == other) return UNKNOWN;
        int before = now.hounds.get(dog).heir;
        now.hounds.get(dog).heir = other;
        return before < 0 ? NONE : before;
    }

    int dies(int dog) {
        if (!is(dog)) return UNKNOWN;
        if (now.hounds.get(dog).halves == 0) return STATE;
        int free = now.hounds.get(dog).halves;
        now.hounds.get(dog).halves = 0;
        List<Integer> seen = new ArrayList<>();
        int next = now.hounds.get(dog).heir;
        while (next >= 0 && !seen.contains(next)) {
            Hound taker = now.hounds.get(next);
            if (taker.halves > 0) {
                int kept = Math.min(free, 9 - taker.halves);
                taker.halves += kept;
                return free - kept;
            }
            seen.add(next);
            next = taker.heir;
        }
        return free;
    }

    /** Where each one goes, by letters, those in the order; likings stand in for what is not told. */
    private String places(int l, int r, List<Integer> order, List<Integer> likings, List<Integer> sated) {
        String[] bowls = {"", ""};
        char[] places = "2222222".toCharArray();
        for (int dog : order) {
            Hound hound = now.hounds.get(dog);
            if (hound.halves == 0) continue;
            int pull = likings.get(dog) + (sated.contains(dog) ? 0 : l - r);
            int want = pull > 0 ? 0 : pull < 0 ? 1 : weight(bowls[0]) < weight(bowls[1]) ? 1 : 0;
            for (int bowl : new int[] {want, 1 - want}) {
                if (hound.fears.chars().noneMatch(c -> bowls[bowl].indexOf(c) >= 0)) {
                    bowls[bowl] += (char) ('a' + dog);
                    places[dog] = (char) ('0' + bowl);
                    break;
                }
            }
        }
        return new String(places);
    }

    private int weight(String bowl) {
        return bowl.chars().map(c -> now.hounds.get(c - 'a').halves).sum();
    }

    private int halvesAt(String places, char bowl) {
        int sum = 0;
        for (int dog = 0; dog < now.hounds.size(); dog++) {
            if (places.charAt(dog) == bowl) sum += now.hounds.get(dog).halves;
        }
        return sum;
    }

    private int wins(String places) {
        int more = Integer.compare(halvesAt(places, '0'), halvesAt(places, '1'));
        return more > 0 ? 0 : more < 0 ? 1 : 2;
    }

    private List<Integer> byLetters() {
        List<Integer> order = new ArrayList<>();
        for (int dog = 0; dog < now.hounds.size(); dog++) order.add(dog);
        return order;
    }

    private List<Integer> likings() {
        List<Integer> likings = new ArrayList<>();
        for (Hound hound : now.hounds) likings.add(hound.liking == null ? 0 : hound.liking);
        return likings;
    }

    private String plain(int l, int r) {
        return places(l, r, byLetters(), likings(), List.of());
    }

    private static boolean liver(int l, int r) {
        return l >= 0 && l <= 20 && r >= 0 && r <= 20;
    }

    int goes(int l, int r, int dog) {
        if (!is(dog)) return UNKNOWN;
        return liver(l, r) ? plain(l, r).charAt(dog) - '0' : OUTSIDE;
    }

    int vote(int l, int r, int what) {
        if (!liver(l, r) || what < 0 || what > 2) return OUTSIDE;
        String places = plain(l, r);
        return what == 2 ? wins(places) : halvesAt(places, (char) ('0' + what));
    }

    int stolen(int l, int r) {
        if (!liver(l, r)) return OUTSIDE;
        int bits = 0;
        for (Integer dog : byLetters()) {
            List<Integer> others = byLetters();
            others.remove(dog);
            if (wins(places(l, r, others, likings(), List.of())) != wins(plain(l, r))) bits += 1 << dog;
        }
        return bits;
    }

    int won(int r) {
        if (!liver(0, r)) return OUTSIDE;
        int l = 0;
        while (l < 21 && vote(l, r, 2) != 0) l++;
        return l == 21 ? NONE : l;
    }

    private int has(int[][] wins, int l, int r, int party) {
        return (wins[l][r] == party ? 20 : wins[l][r] == 2 ? 10 : 0) - (party == 0 ? l : r);
    }

    int rests(int i) {
        int[][] wins = new int[10][10];
        for (int l = 0; l < 10; l++) for (int r = 0; r < 10; r++) wins[l][r] = vote(l, r, 2);
        List<Integer> found = new ArrayList<>();
        for (int l = 0; l < 10; l++) {
            for (int r = 0; r < 10; r++) {
                int mostLeft = -99, mostRight = -99;
                for (int k = 0; k < 10; k++) {
                    mostLeft = Math.max(mostLeft, has(wins, k, r, 0));
                    mostRight = Math.max(mostRight, has(wins, l, k, 1));
                }
                if (has(wins, l, r, 0) == mostLeft && has(wins, l, r, 1) == mostRight) found.add(10 * l + r);
            }
        }
        return ith(found, found.size(), i);
    }

    private static int ith(List<Integer> list, int all, int i) {
        if (i == -1) return all;
        return i >= 0 && i < list.size() ? list.get(i) : NONE;
    }

    private static List<List<Integer>> orders(List<Integer> of) {
        List<List<Integer>> all = new ArrayList<>();
        if (of.isEmpty()) all.add(new ArrayList<>());
        for (Integer head : of) {
            List<Integer> rest = new ArrayList<>(of);
            rest.remove(head);
            for (List<Integer> tail : orders(rest)) {
                tail.add(0, head);
                all.add(tail);
            }
        }
        return all;
    }

    int letOut(int l, int r, int i) {
        if (!liver(l, r)) return OUTSIDE;
        int most = -1;
        List<Integer> first = null;
        for (List<Integer> order : orders(byLetters())) {
            int left = halvesAt(places(l, r, order, likings(), List.of()), '0');
            if (left > most) {
                most = left;
                first = order;
            }
        }
        return ith(first, most, i);
    }

    private List<Integer> alive() {
        List<Integer> alive = byLetters();
        alive.removeIf(dog -> now.hounds.get(dog).halves == 0);
        return alive;
    }

    int swings(int dog) {
        if (!is(dog)) return UNKNOWN;
        List<Integer> others = alive();
        others.remove(Integer.valueOf(dog));
        int own = now.hounds.get(dog).halves;
        int swings = 0;
        for (int way = 0; way < 1 << others.size(); way++) {
            int left = 0, right = 0;
            for (int k = 0; k < others.size(); k++) {
                int halves = now.hounds.get(others.get(k)).halves;
                if ((way >> k & 1) == 1) left += halves; else right += halves;
            }
            if (left + own > right && !(left > right + own)) swings++;
        }
        return swings;
    }

    long turn(int dog, int part) {
        if (!is(dog)) return LOST + UNKNOWN;
        if (part < 0 || part > 1) return LOST + OUTSIDE;
        int all = alive().stream().mapToInt(d -> now.hounds.get(d).halves).sum();
        long upper = 0, lower = 0;
        for (List<Integer> order : orders(alive())) {
            lower++;
            int sum = 0;
            for (int next : order) {
                boolean before = 2 * sum > all;
                sum += now.hounds.get(next).halves;
                if (next == dog && !before && 2 * sum > all) upper++;
            }
        }
        for (long by = lower; by > 1; by--) {
            if (upper % by == 0 && lower % by == 0) return (part == 0 ? upper : lower) / by;
        }
        return part == 0 ? upper : lower;
    }

    int counted(int l, int r, int halves) {
        if (!liver(l, r) || halves < 0 || halves > 63) return OUTSIDE;
        if (now.counts.size() == 6) return FULL;
        now.counts.add(new int[] {l, r, halves});
        return now.counts.size();
    }

    int forget() {
        int before = now.counts.size();
        now.counts.clear();
        return before;
    }

    private List<Integer> open() {
        List<Integer> open = byLetters();
        open.removeIf(dog -> now.hounds.get(dog).liking != null);
        return open;
    }

    private void fitting(List<Integer> open, int at, List<Integer> likings, List<List<Integer>> found) {
        if (at < open.size()) {
            for (int liking = -9; liking <= 9; liking++) {
                likings.set(open.get(at), liking);
                fitting(open, at + 1, likings, found);
            }
            return;
        }
        for (int[] count : now.counts) {
            if (halvesAt(places(count[0], count[1], byLetters(), likings, List.of()), '0') != count[2]) return;
        }
        List<Integer> way = new ArrayList<>();
        for (int dog : open) way.add(likings.get(dog) + 9);
        found.add(way);
    }

    private List<List<Integer>> found() {
        List<List<Integer>> found = new ArrayList<>();
        fitting(open(), 0, likings(), found);
        return found;
    }

    int fits(int i) {
        List<List<Integer>> found = found();
        return ith(found.isEmpty() ? List.of() : found.get(0), found.size(), i);
    }

    int liking(int dog, int what) {
        if (!open().contains(dog)) return UNKNOWN;
        if (what < 0 || what > 1) return OUTSIDE;
        TreeSet<Integer> can = new TreeSet<>();
        for (List<Integer> way : found()) can.add(way.get(open().indexOf(dog)));
        if (can.isEmpty()) return STATE;
        return what == 0 ? can.first() : can.last();
    }

    int ask(int l, int r, int worth) {
        if (!liver(l, r) || worth < 0 || worth > 99) return OUTSIDE;
        if (now.questions.size() == 5) return FULL;
        now.questions.add(new int[] {l, r, worth});
        return now.questions.size();
    }

    int drop() {
        int before = now.questions.size();
        now.questions.clear();
        return before;
    }

    int hunger(int v) {
        if (v < 1 || v > 9) return OUTSIDE;
        int before = now.hunger;
        now.hunger = v;
        return before;
    }

    private int evening(List<Integer> order) {
        List<Integer> meals = new ArrayList<>();
        int worths = 0;
        for (int number : order) {
            int[] question = now.questions.get(number);
            List<Integer> sated = byLetters();
            sated.removeIf(dog -> meals.stream().filter(d -> d.equals(dog)).count() < now.hunger);
            String places = places(question[0], question[1], byLetters(), likings(), sated);
            if (wins(places) == 0) worths += question[2];
            for (int dog : byLetters()) {
                int bowl = places.charAt(dog) - '0';
                if (bowl < 2 && question[bowl] > 0) meals.add(dog);
            }
        }
        return worths;
    }

    int best(int i) {
        List<Integer> numbers = new ArrayList<>();
        for (int k = 0; k < now.questions.size(); k++) numbers.add(k);
        int most = -1;
        List<Integer> first = null;
        for (List<Integer> order : orders(numbers)) {
            int worths = evening(order);
            if (worths > most) {
                most = worths;
                first = order;
            }
        }
        return ith(first, most, i);
    }

    int night(int seed, int n, int what) {
        if (seed < 0 || seed > 9999 || n < 1 || n > 60 || what < 0 || what > 2) return OUTSIDE;
        long x = seed;
        int times = 0;
        for (int k = 0; k < n; k++) {
            x = (75L * x + 74) % 65537;
            if (vote((int) (x % 10), (int) (x / 10 % 10), 2) == what) times++;
        }
        return times;
    }

    int image(int n) {
        if (n < 0 || n > 1) return OUTSIDE;
        images[n] = now.twin();
        return 1;
    }

    int restore(int n) {
        if (n < 0 || n > 1) return OUTSIDE;
        if (images[n] == null) return STATE;
        now = images[n].twin();
        return 1;
    }

    int told(int what) {
        if (what >= 10 && is(what - 10)) return now.hounds.get(what - 10).heir < 0 ? NONE : now.hounds.get(what - 10).heir;
        if (what < 0 || what > 5) return OUTSIDE;
        return List.of(pad.length(), now.hounds.size(), now.hunger, now.counts.size(), now.questions.size(), open().size()).get(what);
    }
}
