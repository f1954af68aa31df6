/** Promises 18 to 22, as they are mostly used: pass, foresee, until, weakest, mean. */
public final class HoursTest {
    public static void main(String[] args) {
        pass();
        passWearsAheadOfShutting();
        foresee();
        until();
        weakest();
        mean();
        Check.done();
    }

    private static void pass() {
        LetterLocks x = Stations.with(1, 2, 3, 4);
        x.put(0, 0);
        x.put(1, 0);
        x.put(2, 1);
        x.setHours(0, 0, 3);
        x.shut(1);
        Check.due("none is shut", 0, x.pass(3));
        Check.due("the hour", 3, x.count(0));
        Check.due("the open one in it is shut", 1, x.pass(1));
        Check.due("shut", 0, x.told(0, 1));
        Check.due("its rings are mixed", 310, x.told(0, 0));
        Check.due("the shut one isn't mixed again", 310, x.told(1, 0));
        Check.due("in an open rack", 1, x.told(2, 1));
        Check.due("in none", 1, x.told(3, 1));
        Check.due("it stays there", 0, x.told(0, 2));
        Check.due("none again", 0, x.pass(99));
        Check.due("the hour then", 103, x.count(0));
    }

    private static void passWearsAheadOfShutting() {
        LetterLocks x = Stations.with(0);
        x.put(0, 0);
        x.setHours(0, 5, 5);
        Check.due("shut in the first hour", 1, x.pass(2));
        Check.due("open it wore at its word by 2", 2, x.wear(0, 0, 0));
        Check.due("shut it wore where it stands by 1", 1, x.wear(0, 0, 1));
        Check.due("mixed once", 310, x.told(0, 0));
    }

    private static void foresee() {
        LetterLocks x = Stations.with(5, 1295);
        x.put(1, 1);
        String before = Stations.told(x);
        Check.due("no wear", x.safe(0), x.foresee(99, 0));
        Check.due("worn at its word", 1, x.foresee(1, 1));
        Check.due("nothing is changed", before, Stations.told(x));
        Check.due("not worn now", 1296, x.safe(1));
        x.rename(1, 0);
        x.put(0, 1);
        x.rename(0, 0);
        x.pass(50);
        x.shut(0);
        x.pass(98);
        Check.due("99 and 98", 1, x.safe(0));
        Check.due("99 and 99: of as much worn ones the least first", 1, x.foresee(1, 0));
        Check.due("at most 99", 1, foreseenThenPassed(x, 99, 0));
        x.lose(1, true);
        Check.due("a lost one", x.safe(1), x.foresee(99, 1));
    }

    private static int foreseenThenPassed(LetterLocks x, int hours, int lock) {
        int foreseen = x.foresee(hours, lock);
        x.pass(hours);
        Check.due("as foreseen", foreseen, x.safe(lock));
        return foreseen;
    }

    private static void until() {
        LetterLocks x = Stations.with(1, 2, 3, 4);
        x.shut(0);
        x.put(2, 1);
        x.put(3, 2);
        x.setHours(2, 0, 23);
        String before = Stations.told(x);
        Check.due("shut now", 0, x.until(0));
        Check.due("in none", -1, x.until(1));
        Check.due("never closed", -1, x.until(2));
        Check.due("closed in hour 23", 24, x.until(3));
        Check.due("nothing is changed", before, Stations.told(x));
        x.setHours(2, 1, 0);
        Check.due("closed now", 1, x.until(3));
        x.setHours(2, 5, 5);
        Check.due("never open", 1, x.until(3));
        x.setHours(2, 0, 20);
        x.pass(19);
        Check.due("closed in the next hour", 2, x.until(3));
        x.pass(2);
        Check.due("shut by its rack", 0, x.until(3));
    }

    private static void weakest() {
        LetterLocks x = new LetterLocks();
        Check.due("without any", -1, x.weakest());
        x.lock(1295);
        Check.due("the only one, found at last", 0, x.weakest());
        x.lock(7);
        x.lock(3);
        x.lock(7);
        Check.due("of several the smallest number", 1, x.weakest());
        x.put(2, 0);
        x.pass(1);
        x.lose(2, true);
        Check.due("the worn one, lost too", 2, x.weakest());
        x.rename(2, 1000);
        Check.due("another word", 1, x.weakest());
    }

    private static void mean() {
        LetterLocks x = new LetterLocks();
        Check.due("without locks", 0.0, x.mean());
        x.lock(0);
        Check.due("without wear", 0.0, x.mean());
        x.shut(0);
        x.pass(1);
        Check.due("of one", 4.0 / 24.0, x.mean());
        x.lock(1);
        x.lock(2);
        Check.due("of three", 4.0 / 72.0, x.mean());
        x.pass(6);
        Check.due("of three later", 28.0 / 72.0, x.mean());
    }
}
