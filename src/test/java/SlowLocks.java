import java.util.ArrayList;
import java.util.Comparator;
import java.util.List;

/** The document word by word, as slowly as it says it: all trials are put into their order one by one. */
final class SlowLocks {
    private static final class One {
        int[] stands = new int[4];
        int[] word = new int[4];
        int[][] wear = new int[4][6];
        boolean open = true;
        boolean lost;
        int rack = -1;
    }

    private final List<One> all = new ArrayList<>();
    private final int[] places = {4, 4, 4};
    private final int[] from = {0, 0, 0};
    private final int[] to = {24, 24, 24};
    private int hour;
    private int turns;

    private static int[] letters(int word) {
        return new int[] {word / 216, word / 36 % 6, word / 6 % 6, word % 6};
    }

    private static int number(int[] letters) {
        return 216 * letters[0] + 36 * letters[1] + 6 * letters[2] + letters[3];
    }

    private One one(int lock) {
        index(lock >= 0 && lock < all.size());
        return all.get(lock);
    }

    private static void index(boolean right) {
        if (!right) {
            throw new IndexOutOfBoundsException();
        }
    }

    private static void argument(boolean right) {
        if (!right) {
            throw new IllegalArgumentException();
        }
    }

    private static void state(boolean right) {
        if (!right) {
            throw new IllegalStateException();
        }
    }

    private static boolean in(int x, int least, int most) {
        return least <= x && x <= most;
    }

    private boolean rackOpen(int rack, int atHour) {
        for (int steps = 0, h = from[rack]; steps < 24; steps++, h++) {
            if (h == to[rack] || h % 24 == to[rack] % 24 && steps > 0 || from[rack] == to[rack]) {
                return false;
            }
            if (h % 24 == atHour % 24) {
                return true;
            }
        }
        return false;
    }

    private int locksIn(int rack, boolean openOnly) {
        return (int) all.stream().filter(o -> o.rack == rack && (o.open || !openOnly)).count();
    }

    private static List<Integer> order(int[] wear) {
        List<Integer> order = new ArrayList<>(List.of(0, 1, 2, 3, 4, 5));
        order.sort(Comparator.<Integer>comparingInt(letter -> -wear[letter]).thenComparingInt(letter -> letter));
        return order;
    }

    private static int trials(One one, int word) {
        int[] sums = new int[1296];
        List<Integer> words = new ArrayList<>();
        for (int tried = 0; tried < 1296; tried++) {
            words.add(tried);
        }
        for (int ring = 0; ring < 4; ring++) {
            List<Integer> order = order(one.wear[ring]);
            for (int tried = 0; tried < 1296; tried++) {
                sums[tried] += order.indexOf(letters(tried)[ring]);
            }
        }
        words.sort(Comparator.<Integer>comparingInt(tried -> sums[tried]).thenComparingInt(tried -> tried));
        return words.indexOf(word) + 1;
    }

    private static void mix(One one) {
        one.open = false;
        for (int ring = 0; ring < 4; ring++) {
            for (int step = 0; step < ring + 1; step++) {
                one.stands[ring] = one.stands[ring] == 5 ? 0 : one.stands[ring] + 1;
            }
        }
    }

    private int anHour() {
        for (One one : all) {
            for (int ring = 0; ring < 4; ring++) {
                int letter = one.open ? one.word[ring] : one.stands[ring];
                int by = one.open ? one.rack >= 0 ? 2 : 0 : 1;
                one.wear[ring][letter] = Math.min(99, one.wear[ring][letter] + by);
            }
        }
        int shut = 0;
        for (One one : all) {
            if (one.open && one.rack >= 0 && !rackOpen(one.rack, hour)) {
                mix(one);
                shut++;
            }
        }
        hour++;
        return shut;
    }

    private SlowLocks copy() {
        SlowLocks copy = new SlowLocks();
        for (One one : all) {
            One other = new One();
            other.stands = one.stands.clone();
            other.word = one.word.clone();
            for (int ring = 0; ring < 4; ring++) {
                other.wear[ring] = one.wear[ring].clone();
            }
            other.open = one.open;
            other.lost = one.lost;
            other.rack = one.rack;
            copy.all.add(other);
        }
        System.arraycopy(places, 0, copy.places, 0, 3);
        System.arraycopy(from, 0, copy.from, 0, 3);
        System.arraycopy(to, 0, copy.to, 0, 3);
        copy.hour = hour;
        return copy;
    }

    int lock(int word) {
        argument(in(word, 0, 1295));
        state(all.size() < 8);
        One one = new One();
        one.word = letters(word);
        all.add(one);
        return all.size() - 1;
    }

    int turn(int lock, int ring, int letter) {
        One one = one(lock);
        index(in(ring, 0, 3));
        argument(in(letter, 0, 5));
        int taken = apartLetters(one.stands[ring], letter);
        one.stands[ring] = letter;
        turns += taken;
        return taken;
    }

    private static int apartLetters(int a, int b) {
        int on = 0;
        while ((a + on) % 6 != b) {
            on++;
        }
        int back = 0;
        while ((a + 6 - back) % 6 != b) {
            back++;
        }
        return on < back ? on : back;
    }

    boolean open(int lock) {
        One one = one(lock);
        one.open |= number(one.stands) == number(one.word);
        return one.open;
    }

    int shut(int lock) {
        One one = one(lock);
        state(one.open);
        mix(one);
        return number(one.stands);
    }

    int rename(int lock, int word) {
        One one = one(lock);
        argument(in(word, 0, 1295));
        state(one.open);
        int before = number(one.word);
        one.word = letters(word);
        one.lost = false;
        return before;
    }

    boolean lose(int lock, boolean lost) {
        One one = one(lock);
        boolean before = one.lost;
        one.lost = lost;
        return before;
    }

    int setPlaces(int rack, int newPlaces) {
        index(in(rack, 0, 2));
        argument(in(newPlaces, 1, 6));
        state(locksIn(rack, false) <= newPlaces);
        int before = places[rack];
        places[rack] = newPlaces;
        return before;
    }

    int setHours(int rack, int newFrom, int newTo) {
        index(in(rack, 0, 2));
        argument(in(newFrom, 0, 23) && in(newTo, 0, 24));
        int before = 25 * from[rack] + to[rack];
        from[rack] = newFrom;
        to[rack] = newTo;
        return before;
    }

    int put(int lock, int rack) {
        One one = one(lock);
        index(in(rack, -1, 2));
        int before = one.rack;
        state(one.open || rack == before);
        state(rack == -1 || rack == before || rackOpen(rack, hour) && locksIn(rack, false) < places[rack]);
        one.rack = rack;
        return before;
    }

    int told(int lock, int what) {
        One one = one(lock);
        index(in(what, 0, 5));
        int[] shows = new int[4];
        for (int ring = 0; ring < 4; ring++) {
            shows[ring] = order(one.wear[ring]).get(0);
        }
        int[] all = {number(one.stands), one.open ? 1 : 0, one.rack, one.lost ? 1 : 0, number(shows),
            one.lost ? -1 : number(one.word)};
        return all[what];
    }

    int wear(int lock, int ring, int letter) {
        One one = one(lock);
        index(in(ring, 0, 3) && in(letter, 0, 5));
        return one.wear[ring][letter];
    }

    int rack(int rack, int what) {
        index(in(rack, 0, 2) && in(what, 0, 5));
        int[] all = {places[rack], locksIn(rack, false), rackOpen(rack, hour) ? 1 : 0, locksIn(rack, true),
            from[rack], to[rack]};
        return all[what];
    }

    int count(int what) {
        index(in(what, 0, 6));
        int[] counts = {hour, all.size(), 0, 0, 0, turns, 0};
        for (One one : all) {
            counts[2] += one.open ? 1 : 0;
            counts[3] += one.lost ? 1 : 0;
            for (int[] ring : one.wear) {
                for (int worn : ring) {
                    counts[4] += worn;
                }
            }
            counts[6] += one.rack == -1 ? 0 : 1;
        }
        return counts[what];
    }

    int apart(int a, int b) {
        argument(in(a, 0, 1295) && in(b, 0, 1295));
        int sum = 0;
        for (int ring = 0; ring < 4; ring++) {
            sum += apartLetters(letters(a)[ring], letters(b)[ring]);
        }
        return sum;
    }

    int trial(int lock, int word) {
        One one = one(lock);
        argument(in(word, 0, 1295));
        return trials(one, word);
    }

    int safe(int lock) {
        One one = one(lock);
        return trials(one, number(one.word));
    }

    int pass(int hours) {
        argument(in(hours, 1, 99));
        int shut = 0;
        for (int passed = 0; passed < hours; passed++) {
            shut += anHour();
        }
        return shut;
    }

    int foresee(int hours, int lock) {
        argument(in(hours, 1, 99));
        one(lock);
        SlowLocks copy = copy();
        copy.pass(hours);
        return copy.safe(lock);
    }

    int until(int lock) {
        one(lock);
        SlowLocks copy = copy();
        for (int hours = 0; hours <= 48; hours++) {
            if (!copy.one(lock).open) {
                return hours;
            }
            copy.anHour();
        }
        return -1;
    }

    int weakest() {
        int found = -1;
        for (int lock = 0; lock < all.size(); lock++) {
            if (found == -1 || safe(lock) < safe(found)) {
                found = lock;
            }
        }
        return found;
    }

    double mean() {
        return all.isEmpty() ? 0 : (double) count(4) / (24 * all.size());
    }

    long digest() {
        long d = 1471;
        for (int what = 0; what < 7; what++) {
            d = d * 31 + count(what);
        }
        for (int rack = 0; rack < 3; rack++) {
            for (int what = 0; what < 6; what++) {
                d = d * 31 + rack(rack, what);
            }
        }
        for (int lock = 0; lock < all.size(); lock++) {
            for (int what = 0; what < 6; what++) {
                d = d * 31 + told(lock, what);
            }
            for (int letter = 0; letter < 24; letter++) {
                d = d * 31 + wear(lock, letter / 6, letter % 6);
            }
        }
        return d;
    }
}
