/** Long runs of mixed calls, right and wrong ones: each answers as SlowLocks does, and leaves the same behind. */
public final class RunsTest {
    private static final int RUNS = 300;
    private static final int MOST_CALLS = 512;
    private static final int CALLS_OF_A_STEP = 7;

    private long drawn;
    private int called = 0;

    private RunsTest(long start) {
        drawn = start;
    }

    public static void main(String[] args) {
        for (int run = 0; run < RUNS; run++) {
            new RunsTest(run).run(run);
        }
        Check.done();
    }

    /** The same numbers in every run of this test. */
    private int draw(int below) {
        drawn = drawn * 6364136223846793005L + 1442695040888963407L;
        return (int) ((drawn >>> 33) % below);
    }

    /** Mostly a number from least to most; now and then one of those around, or far off. */
    private int near(int least, int most) {
        switch (draw(40)) {
            case 0: return least - 1;
            case 1: return most + 1;
            case 2: return least;
            case 3: return most;
            case 4: return draw(2) == 0 ? Integer.MIN_VALUE : Integer.MAX_VALUE;
            default: return least + draw(most - least + 1);
        }
    }

    private void run(int run) {
        LetterLocks x = new LetterLocks();
        SlowLocks y = new SlowLocks();
        int locks = 1 + run % 8;
        while (called + CALLS_OF_A_STEP <= MOST_CALLS) {
            String what = "run " + run + ", call " + called + ": ";
            if (called < 2 * locks) {
                int word = near(0, 1295);
                same(what + "lock " + word, () -> x.lock(word), () -> y.lock(word));
            } else {
                step(what, x, y, near(0, locks - 1));
            }
            same(what + "digest", () -> x.digest(), () -> y.digest());
        }
    }

    private void step(String what, LetterLocks x, SlowLocks y, int lock) {
        int kind = draw(100);
        if (kind < 45) {
            change(what, x, y, lock, kind);
        } else if (kind < 60) {
            goThroughHours(what, x, y, lock);
        } else if (kind < 70) {
            toWord(what, x, y, lock);
        } else {
            ask(what, x, y, lock, kind);
        }
    }

    private void change(String what, LetterLocks x, SlowLocks y, int lock, int kind) {
        int rack = near(0, 2);
        if (kind < 10) {
            int ring = near(0, 3);
            int letter = near(0, 5);
            same(what + "turn", () -> x.turn(lock, ring, letter), () -> y.turn(lock, ring, letter));
        } else if (kind < 12) {
            same(what + "open", () -> x.open(lock), () -> y.open(lock));
        } else if (kind < 15) {
            same(what + "shut", () -> x.shut(lock), () -> y.shut(lock));
        } else if (kind < 18) {
            int word = near(0, 1295);
            same(what + "rename", () -> x.rename(lock, word), () -> y.rename(lock, word));
        } else if (kind < 21) {
            boolean lost = draw(2) == 0;
            same(what + "lose", () -> x.lose(lock, lost), () -> y.lose(lock, lost));
        } else if (kind < 25) {
            int places = near(1, 6);
            same(what + "setPlaces", () -> x.setPlaces(rack, places), () -> y.setPlaces(rack, places));
        } else if (kind < 30) {
            int from = near(0, 23);
            int to = near(0, 24);
            same(what + "setHours", () -> x.setHours(rack, from, to), () -> y.setHours(rack, from, to));
        } else if (kind < 31) {
            int word = near(0, 1295);
            same(what + "lock", () -> x.lock(word), () -> y.lock(word));
        } else {
            int into = near(-1, 2);
            same(what + "put", () -> x.put(lock, into), () -> y.put(lock, into));
        }
    }

    private void goThroughHours(String what, LetterLocks x, SlowLocks y, int lock) {
        int hours = draw(3) == 0 ? near(1, 99) : near(1, 9);
        if (draw(3) == 0) {
            same(what + "foresee", () -> x.foresee(hours, lock), () -> y.foresee(hours, lock));
        } else {
            same(what + "pass", () -> x.pass(hours), () -> y.pass(hours));
        }
    }

    /** Turns a lock to its word and opens it: by chance alone that would hardly be seen. */
    private void toWord(String what, LetterLocks x, SlowLocks y, int lock) {
        if (lock < 0 || lock >= y.count(1)) {
            return;
        }
        same(what + "find the word", () -> x.lose(lock, false), () -> y.lose(lock, false));
        int word = y.told(lock, 5);
        int[] letters = {word / 216, word / 36 % 6, word / 6 % 6, word % 6};
        for (int ring = 0; ring < 4; ring++) {
            int r = ring;
            same(what + "turn to the word", () -> x.turn(lock, r, letters[r]), () -> y.turn(lock, r, letters[r]));
        }
        same(what + "open at the word", () -> x.open(lock), () -> y.open(lock));
    }

    private void ask(String what, LetterLocks x, SlowLocks y, int lock, int kind) {
        int a = near(0, 1295);
        int b = near(0, 1295);
        int rack = near(0, 2);
        int which = near(0, 6);
        int letter = near(0, 5);
        int ring = near(0, 3);
        if (kind < 74) {
            same(what + "told", () -> x.told(lock, which), () -> y.told(lock, which));
        } else if (kind < 77) {
            same(what + "wear", () -> x.wear(lock, ring, letter), () -> y.wear(lock, ring, letter));
        } else if (kind < 80) {
            same(what + "rack", () -> x.rack(rack, which), () -> y.rack(rack, which));
        } else if (kind < 82) {
            same(what + "count", () -> x.count(which), () -> y.count(which));
        } else if (kind < 84) {
            same(what + "apart", () -> x.apart(a, b), () -> y.apart(a, b));
        } else if (kind < 88) {
            same(what + "trial", () -> x.trial(lock, a), () -> y.trial(lock, a));
        } else if (kind < 91) {
            same(what + "safe", () -> x.safe(lock), () -> y.safe(lock));
        } else if (kind < 95) {
            same(what + "until", () -> x.until(lock), () -> y.until(lock));
        } else if (kind < 97) {
            same(what + "weakest", () -> x.weakest(), () -> y.weakest());
        } else {
            same(what + "mean", () -> x.mean(), () -> y.mean());
        }
    }

    private void same(String what, Check.Call fast, Check.Call slow) {
        called++;
        Check.due(what, Check.thrownBy(slow), Check.thrownBy(fast));
    }
}
