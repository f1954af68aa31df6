/** Promises 15 to 17, as they are mostly used: apart, trial, safe. */
public final class WordsTest {
    public static void main(String[] args) {
        apart();
        trialWithWear();
        safe();
        Check.done();
    }

    private static void apart() {
        LetterLocks x = new LetterLocks();
        Check.due("a word from itself", 0, x.apart(777, 777));
        Check.due("0 to 5 is 1, four times", 4, x.apart(0, 1295));
        Check.due("back", 4, x.apart(1295, 0));
        Check.due("the most", 12, x.apart(0, 3 * 259));
        Check.due("each ring", 1 + 2 + 3 + 2, x.apart(0, 216 + 2 * 36 + 3 * 6 + 4));
        Check.due("the first ring", 3, x.apart(1, 3 * 216 + 1));
        Check.due("the last ring", 2, x.apart(5, 1));
        Check.due("no turns by asking", 0, x.count(5));
    }

    private static void trialWithWear() {
        LetterLocks x = new LetterLocks();
        x.lock(0);
        x.shut(0);
        x.turn(0, 0, 2);
        x.turn(0, 1, 0);
        x.turn(0, 2, 0);
        x.turn(0, 3, 5);
        x.pass(2);
        x.turn(0, 3, 4);
        x.pass(1);
        Check.due("the most worn", 1, x.trial(0, 2 * 216 + 5));
        Check.due("of sum 1 the least: the first ring's 0", 2, x.trial(0, 5));
        Check.due("of sum 1 the next: the last ring's 4", 3, x.trial(0, 2 * 216 + 4));
        Check.due("of sum 1 the third: the third ring's 1", 4, x.trial(0, 2 * 216 + 6 + 5));
        Check.due("of sum 1 the greatest: the second ring's 1", 5, x.trial(0, 2 * 216 + 36 + 5));
        Check.due("the last", 1296, x.trial(0, 5 * 216 + 5 * 36 + 5 * 6 + 3));
        Check.due("the lock's word", x.trial(0, 0), x.safe(0));
    }

    private static void safe() {
        LetterLocks x = new LetterLocks();
        x.lock(1295);
        Check.due("without wear", 1296, x.safe(0));
        x.put(0, 0);
        x.pass(1);
        Check.due("worn at its word", 1, x.safe(0));
        x.lose(0, true);
        Check.due("lost too", 1, x.safe(0));
        x.rename(0, 0);
        Check.due("another word", x.trial(0, 0), x.safe(0));
        Check.due("another word, each at place 1", 36, x.safe(0));
        x.turn(0, 0, 3);
        Check.due("as it stands is all the same", 36, x.safe(0));
    }
}
