/** Promises 18 to 23: pass, foresee, until, weakest, mean, digest. */
public final class HoursTest {
    private static final int[] NO_HOURS = {Integer.MIN_VALUE, -1, 0, 100, Integer.MAX_VALUE};

    public static void main(String[] args) {
        pass();
        passWearsAheadOfShutting();
        passRefuses();
        foresee();
        foreseeShuts();
        foreseeRefuses();
        until();
        weakest();
        mean();
        digest();
        Check.done();
    }

    private static LetterLocks with(int... words) {
        LetterLocks x = new LetterLocks();
        for (int word : words) {
            x.lock(word);
        }
        return x;
    }

    private static void pass() {
        LetterLocks x = with(1, 2, 3, 4);
        x.put(0, 0);
        x.put(1, 0);
        x.put(2, 1);
        x.setHours(0, 0, 3);
        x.shut(1);
        Check.due("none is shut", 0, x.pass(3));
        Check.due("the hour", 3, x.count(0));
        Check.due("the open one in it is shut", 1, x.pass(1));
        Check.due("shut", 0, x.told(0, 1));
        Check.due("its rings are mixed", 310, x.told(0, 0));
        Check.due("the shut one isn't mixed again", 310, x.told(1, 0));
        Check.due("in an open rack", 1, x.told(2, 1));
        Check.due("in none", 1, x.told(3, 1));
        Check.due("it stays there", 0, x.told(0, 2));
        Check.due("none again", 0, x.pass(99));
        Check.due("the hour then", 103, x.count(0));
    }

    private static void passWearsAheadOfShutting() {
        LetterLocks x = with(0);
        x.put(0, 0);
        x.setHours(0, 5, 5);
        Check.due("shut in the first hour", 1, x.pass(2));
        Check.due("open it wore at its word by 2", 2, x.wear(0, 0, 0));
        Check.due("shut it wore where it stands by 1", 1, x.wear(0, 0, 1));
        Check.due("mixed once", 310, x.told(0, 0));
    }

    private static void passRefuses() {
        LetterLocks x = with(0);
        x.shut(0);
        for (int no : NO_HOURS) {
            Check.refuses("pass " + no, Check.ARGUMENT, x, () -> x.pass(no));
        }
    }

    private static void foresee() {
        LetterLocks x = with(5, 1295);
        x.put(1, 1);
        String before = Check.allOf(x);
        Check.due("no wear", x.safe(0), x.foresee(99, 0));
        Check.due("worn at its word", 1, x.foresee(1, 1));
        Check.due("nothing is changed", before, Check.allOf(x));
        Check.due("not worn now", 1296, x.safe(1));
        x.rename(1, 0);
        x.put(0, 1);
        x.rename(0, 0);
        x.pass(50);
        x.shut(0);
        x.pass(98);
        Check.due("99 and 98", 1, x.safe(0));
        Check.due("99 and 99: of as much worn ones the least first", 1, x.foresee(1, 0));
        Check.due("at most 99", 1, foreseenThenPassed(x, 99, 0));
        x.lose(1, true);
        Check.due("a lost one", x.safe(1), x.foresee(99, 1));
    }

    private static int foreseenThenPassed(LetterLocks x, int hours, int lock) {
        int foreseen = x.foresee(hours, lock);
        x.pass(hours);
        Check.due("as foreseen", foreseen, x.safe(lock));
        return foreseen;
    }

    private static void foreseeShuts() {
        for (int hours = 1; hours < 100; hours++) {
            LetterLocks x = with(700, 100);
            x.put(1, 0);
            x.setHours(0, 22, 4);
            x.pass(2);
            Check.due("foreseen " + hours, foreseenThenPassed(x, hours, 1), x.safe(1));
        }
        LetterLocks x = with(0);
        x.put(0, 0);
        x.setHours(0, 0, 1);
        Check.due("its word shows", 1, x.foresee(6, 0));
        Check.due("by hour 7 the other one shows", 36, foreseenThenPassed(x, 7, 0));
    }

    private static void foreseeRefuses() {
        LetterLocks x = with(0);
        for (int no : NO_HOURS) {
            Check.refuses("foresee " + no, Check.ARGUMENT, x, () -> x.foresee(no, 0));
            Check.refuses("foresee " + no + " of none", Check.ARGUMENT, x, () -> x.foresee(no, 1));
        }
        Check.refuses("foresee of 1", Check.INDEX, x, () -> x.foresee(1, 1));
        Check.refuses("foresee of -1", Check.INDEX, x, () -> x.foresee(99, -1));
        Check.refuses("foresee of MAX", Check.INDEX, x, () -> x.foresee(99, Integer.MAX_VALUE));
    }

    private static void until() {
        LetterLocks x = with(1, 2, 3, 4);
        x.shut(0);
        x.put(2, 1);
        x.put(3, 2);
        x.setHours(2, 0, 23);
        String before = Check.allOf(x);
        Check.due("shut now", 0, x.until(0));
        Check.due("in none", -1, x.until(1));
        Check.due("never closed", -1, x.until(2));
        Check.due("closed in hour 23", 24, x.until(3));
        Check.due("nothing is changed", before, Check.allOf(x));
        x.setHours(2, 1, 0);
        Check.due("closed now", 1, x.until(3));
        x.setHours(2, 5, 5);
        Check.due("never open", 1, x.until(3));
        x.setHours(2, 0, 20);
        x.pass(19);
        Check.due("closed in the next hour", 2, x.until(3));
        x.pass(2);
        Check.due("shut by its rack", 0, x.until(3));
        for (int no : new int[] {Integer.MIN_VALUE, -1, 4, Integer.MAX_VALUE}) {
            Check.refuses("until " + no, Check.INDEX, x, () -> x.until(no));
        }
    }

    private static void weakest() {
        LetterLocks x = new LetterLocks();
        Check.due("without any", -1, x.weakest());
        x.lock(1295);
        Check.due("the only one, found at last", 0, x.weakest());
        x.lock(7);
        x.lock(3);
        x.lock(7);
        Check.due("of several the smallest number", 1, x.weakest());
        x.put(2, 0);
        x.pass(1);
        x.lose(2, true);
        Check.due("the worn one, lost too", 2, x.weakest());
        x.rename(2, 1000);
        Check.due("another word", 1, x.weakest());
    }

    private static void mean() {
        LetterLocks x = new LetterLocks();
        Check.due("without locks", 0.0, x.mean());
        x.lock(0);
        Check.due("without wear", 0.0, x.mean());
        x.shut(0);
        x.pass(1);
        Check.due("of one", 4.0 / 24.0, x.mean());
        x.lock(1);
        x.lock(2);
        Check.due("of three", 4.0 / 72.0, x.mean());
        x.pass(6);
        Check.due("of three later", 28.0 / 72.0, x.mean());
    }

    private static void digest() {
        LetterLocks x = new LetterLocks();
        Check.due("a new one's digest", digestOf(x), x.digest());
        x.lock(1000);
        x.lock(3);
        x.put(0, 1);
        x.put(1, 2);
        x.setHours(1, 3, 17);
        x.setPlaces(2, 5);
        x.lose(1, true);
        x.turn(1, 3, 5);
        x.pass(40);
        x.shut(1);
        x.pass(20);
        Check.due("a worn one's digest", digestOf(x), x.digest());
        Check.due("the same again", x.digest(), x.digest());
    }

    private static long digestOf(LetterLocks x) {
        long d = 1471;
        for (int what = 0; what <= 6; what++) {
            d = d * 31 + x.count(what);
        }
        for (int rack = 0; rack <= 2; rack++) {
            for (int what = 0; what <= 5; what++) {
                d = d * 31 + x.rack(rack, what);
            }
        }
        for (int lock = 0; lock < x.count(1); lock++) {
            for (int what = 0; what <= 5; what++) {
                d = d * 31 + x.told(lock, what);
            }
            for (int ring = 0; ring <= 3; ring++) {
                for (int letter = 0; letter <= 5; letter++) {
                    d = d * 31 + x.wear(lock, ring, letter);
                }
            }
        }
        return d;
    }
}
