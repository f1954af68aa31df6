/** Promises 1 to 7, as they are mostly used: a new object, lock, turn, open, shut, rename, lose. */
public final class LocksTest {
    public static void main(String[] args) {
        lock();
        turn();
        open();
        shut();
        rename();
        lose();
        Check.done();
    }

    private static void lock() {
        LetterLocks x = new LetterLocks();
        Check.due("lock(0)", 0, x.lock(0));
        Check.due("lock(1295)", 1, x.lock(1295));
        int[] fresh = {0, 1, -1, 0, 0, 1295};
        for (int what = 0; what < 6; what++) {
            Check.due("a fresh lock's told " + what, fresh[what], x.told(1, what));
        }
        Check.due("no wear at first", 0, x.count(4));
        for (int i = 2; i < 8; i++) {
            Check.due("lock number", i, x.lock(7));
        }
        Check.due("eight locks", 8, x.count(1));
    }

    private static void turn() {
        LetterLocks x = Stations.with(100, 200);
        Check.due("on", 2, x.turn(1, 0, 2));
        Check.due("on again", 3, x.turn(1, 0, 5));
        Check.due("around", 2, x.turn(1, 0, 1));
        Check.due("another ring, back around", 2, x.turn(1, 2, 4));
        Check.due("where it stands", 216 + 4 * 6, x.told(1, 0));
        Check.due("the other lock stands as before", 0, x.told(0, 0));
        Check.due("turns in all", 9, x.count(5));
    }

    private static void open() {
        LetterLocks x = new LetterLocks();
        x.lock(865);
        Check.due("an open one stays open", true, x.open(0));
        x.shut(0);
        Check.due("not at its word", false, x.open(0));
        Check.due("still shut", 0, x.told(0, 1));
        x.turn(0, 0, 4);
        x.turn(0, 1, 0);
        x.turn(0, 2, 0);
        Check.due("three letters of four", false, x.open(0));
        x.turn(0, 3, 1);
        x.lose(0, true);
        Check.due("at its word, lost too", true, x.open(0));
        Check.due("open then", 1, x.told(0, 1));
        x.turn(0, 3, 2);
        Check.due("stays open away from its word", true, x.open(0));
    }

    private static void shut() {
        LetterLocks x = new LetterLocks();
        x.lock(865);
        x.lock(310);
        Check.due("shut from 0", 310, x.shut(0));
        Check.due("stands there", 310, x.told(0, 0));
        Check.due("is shut", 0, x.told(0, 1));
        Check.due("the other one is open", 1, x.told(1, 1));
        for (int ring = 0; ring < 4; ring++) {
            x.turn(1, ring, 5);
        }
        Check.due("shut from 5, around", 0 * 216 + 1 * 36 + 2 * 6 + 3, x.shut(1));
        Check.due("no turns by shutting", 4, x.count(5));
        LetterLocks y = new LetterLocks();
        y.lock(310);
        y.shut(0);
        Check.due("mixed to its word it is shut", 0, y.told(0, 1));
        Check.due("and opens there", true, y.open(0));
    }

    private static void rename() {
        LetterLocks x = new LetterLocks();
        x.lock(100);
        Check.due("rename", 100, x.rename(0, 1295));
        Check.due("the word", 1295, x.told(0, 5));
        x.lose(0, true);
        Check.due("rename a lost one", 1295, x.rename(0, 0));
        Check.due("known then", 0, x.told(0, 3));
        Check.due("the word then", 0, x.told(0, 5));
        Check.due("its rings stay", 0, x.told(0, 0));
    }

    private static void lose() {
        LetterLocks x = new LetterLocks();
        x.lock(100);
        x.lock(200);
        Check.due("was known", false, x.lose(0, true));
        Check.due("was lost", true, x.lose(0, true));
        Check.due("lost", 1, x.told(0, 3));
        Check.due("not told", -1, x.told(0, 5));
        Check.due("one lost", 1, x.count(3));
        Check.due("the other one is known", 200, x.told(1, 5));
        Check.due("was lost still", true, x.lose(0, false));
        Check.due("was found", false, x.lose(0, false));
        Check.due("the word again", 100, x.told(0, 5));
        x.shut(0);
        Check.due("a shut one too", false, x.lose(0, true));
    }
}
