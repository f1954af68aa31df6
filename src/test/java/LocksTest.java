/** Promises 1 to 7: a new object, lock, turn, open, shut, rename, lose. */
public final class LocksTest {
    private static final int[] NO_NUMBERS = {Integer.MIN_VALUE, -1, Integer.MAX_VALUE};

    public static void main(String[] args) {
        newObject();
        lock();
        turn();
        turnKeepsOpenOrShut();
        turnRefuses();
        open();
        shut();
        rename();
        lose();
        Check.done();
    }

    private static void newObject() {
        LetterLocks x = new LetterLocks();
        for (int what = 0; what < 7; what++) {
            Check.due("new count " + what, 0, x.count(what));
        }
        int[] rack = {4, 0, 1, 0, 0, 24};
        for (int i = 0; i < 3; i++) {
            for (int what = 0; what < 6; what++) {
                Check.due("new rack " + i + " " + what, rack[what], x.rack(i, what));
            }
        }
        Check.refuses("new told", Check.INDEX, x, () -> x.told(0, 0));
        x.lock(3);
        LetterLocks other = new LetterLocks();
        Check.due("objects of their own", 0, other.count(1));
    }

    private static void lock() {
        LetterLocks x = new LetterLocks();
        Check.due("lock(0)", 0, x.lock(0));
        Check.due("lock(1295)", 1, x.lock(1295));
        Check.refuses("lock(-1)", Check.ARGUMENT, x, () -> x.lock(-1));
        Check.refuses("lock(1296)", Check.ARGUMENT, x, () -> x.lock(1296));
        int[] fresh = {0, 1, -1, 0, 0, 1295};
        for (int what = 0; what < 6; what++) {
            Check.due("a fresh lock's told " + what, fresh[what], x.told(1, what));
        }
        Check.due("no wear at first", 0, x.count(4));
        for (int i = 2; i < 8; i++) {
            Check.due("lock number", i, x.lock(7));
        }
        Check.refuses("a ninth lock", Check.STATE, x, () -> x.lock(0));
        Check.refuses("a ninth lock, wrong word", Check.ARGUMENT, x, () -> x.lock(1296));
        Check.due("eight locks", 8, x.count(1));
    }

    private static void turn() {
        int[][] apart = {
            {0, 1, 2, 3, 2, 1}, {1, 0, 1, 2, 3, 2}, {2, 1, 0, 1, 2, 3},
            {3, 2, 1, 0, 1, 2}, {2, 3, 2, 1, 0, 1}, {1, 2, 3, 2, 1, 0},
        };
        int[] worth = {216, 36, 6, 1};
        for (int ring = 0; ring < 4; ring++) {
            LetterLocks x = new LetterLocks();
            x.lock(0);
            int all = 0;
            for (int from = 0; from < 6; from++) {
                for (int to = 0; to < 6; to++) {
                    all += x.turn(0, ring, from);
                    Check.due("turn " + from + " to " + to, apart[from][to], x.turn(0, ring, to));
                    all += apart[from][to];
                    Check.due("stands at", worth[ring] * to, x.told(0, 0));
                    Check.due("turns in all", all, x.count(5));
                }
            }
        }
    }

    private static void turnKeepsOpenOrShut() {
        LetterLocks x = new LetterLocks();
        x.lock(0);
        x.turn(0, 0, 4);
        Check.due("open at any letters", 1, x.told(0, 1));
        x.shut(0);
        x.turn(0, 0, 0);
        x.turn(0, 1, 0);
        x.turn(0, 2, 0);
        x.turn(0, 3, 0);
        Check.due("at its word", 0, x.told(0, 0));
        Check.due("shut until it is opened", 0, x.told(0, 1));
        Check.due("no wear by turning", 0, x.count(4));
    }

    private static void turnRefuses() {
        LetterLocks x = new LetterLocks();
        x.lock(0);
        for (int no : NO_NUMBERS) {
            Check.refuses("turn lock " + no, Check.INDEX, x, () -> x.turn(no, 0, 1));
            Check.refuses("turn ring " + no, Check.INDEX, x, () -> x.turn(0, no, 1));
            Check.refuses("turn letter " + no, Check.ARGUMENT, x, () -> x.turn(0, 0, no));
        }
        Check.refuses("turn lock 1", Check.INDEX, x, () -> x.turn(1, 0, 1));
        Check.refuses("turn ring 4", Check.INDEX, x, () -> x.turn(0, 4, 1));
        Check.refuses("turn letter 6", Check.ARGUMENT, x, () -> x.turn(0, 3, 6));
        Check.refuses("turn lock and letter", Check.INDEX, x, () -> x.turn(1, 0, 6));
        Check.refuses("turn ring and letter", Check.INDEX, x, () -> x.turn(0, 4, 6));
    }

    private static void open() {
        LetterLocks x = new LetterLocks();
        x.lock(865);
        Check.due("an open one stays open", true, x.open(0));
        x.shut(0);
        Check.due("not at its word", false, x.open(0));
        Check.due("still shut", 0, x.told(0, 1));
        x.turn(0, 0, 4);
        x.turn(0, 1, 0);
        x.turn(0, 2, 0);
        Check.due("three letters of four", false, x.open(0));
        x.turn(0, 3, 1);
        x.lose(0, true);
        Check.due("at its word, lost too", true, x.open(0));
        Check.due("open then", 1, x.told(0, 1));
        x.turn(0, 3, 2);
        Check.due("stays open away from its word", true, x.open(0));
        for (int no : NO_NUMBERS) {
            Check.refuses("open " + no, Check.INDEX, x, () -> x.open(no));
        }
        Check.refuses("open(1)", Check.INDEX, x, () -> x.open(1));
    }

    private static void shut() {
        LetterLocks x = new LetterLocks();
        x.lock(865);
        x.lock(310);
        Check.due("shut from 0", 310, x.shut(0));
        Check.due("stands there", 310, x.told(0, 0));
        Check.due("is shut", 0, x.told(0, 1));
        Check.due("the other one is open", 1, x.told(1, 1));
        Check.refuses("shut twice", Check.STATE, x, () -> x.shut(0));
        for (int ring = 0; ring < 4; ring++) {
            x.turn(1, ring, 5);
        }
        Check.due("shut from 5, around", 0 * 216 + 1 * 36 + 2 * 6 + 3, x.shut(1));
        Check.due("no turns by shutting", 4, x.count(5));
        LetterLocks y = new LetterLocks();
        y.lock(310);
        y.shut(0);
        Check.due("mixed to its word it is shut", 0, y.told(0, 1));
        Check.due("and opens there", true, y.open(0));
        for (int no : NO_NUMBERS) {
            Check.refuses("shut " + no, Check.INDEX, x, () -> x.shut(no));
        }
        Check.refuses("shut(2)", Check.INDEX, x, () -> x.shut(2));
    }

    private static void rename() {
        LetterLocks x = new LetterLocks();
        x.lock(100);
        Check.due("rename", 100, x.rename(0, 1295));
        Check.due("the word", 1295, x.told(0, 5));
        x.lose(0, true);
        Check.due("rename a lost one", 1295, x.rename(0, 0));
        Check.due("known then", 0, x.told(0, 3));
        Check.due("the word then", 0, x.told(0, 5));
        Check.due("its rings stay", 0, x.told(0, 0));
        Check.refuses("rename to -1", Check.ARGUMENT, x, () -> x.rename(0, -1));
        Check.refuses("rename to 1296", Check.ARGUMENT, x, () -> x.rename(0, 1296));
        x.lose(0, true);
        x.shut(0);
        Check.refuses("rename a shut one", Check.STATE, x, () -> x.rename(0, 5));
        Check.refuses("rename a shut one to no word", Check.ARGUMENT, x, () -> x.rename(0, 1296));
        for (int no : NO_NUMBERS) {
            Check.refuses("rename " + no, Check.INDEX, x, () -> x.rename(no, 5));
            Check.refuses("rename " + no + " to no word", Check.INDEX, x, () -> x.rename(no, -1));
        }
        Check.refuses("rename(1, 5)", Check.INDEX, x, () -> x.rename(1, 5));
    }

    private static void lose() {
        LetterLocks x = new LetterLocks();
        x.lock(100);
        x.lock(200);
        Check.due("was known", false, x.lose(0, true));
        Check.due("was lost", true, x.lose(0, true));
        Check.due("lost", 1, x.told(0, 3));
        Check.due("not told", -1, x.told(0, 5));
        Check.due("one lost", 1, x.count(3));
        Check.due("the other one is known", 200, x.told(1, 5));
        Check.due("was lost still", true, x.lose(0, false));
        Check.due("was found", false, x.lose(0, false));
        Check.due("the word again", 100, x.told(0, 5));
        x.shut(0);
        Check.due("a shut one too", false, x.lose(0, true));
        for (int no : NO_NUMBERS) {
            Check.refuses("lose " + no, Check.INDEX, x, () -> x.lose(no, false));
        }
        Check.refuses("lose(2)", Check.INDEX, x, () -> x.lose(2, true));
    }
}
