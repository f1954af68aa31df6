/** Promises 11 to 14, as they are mostly used: told, wear, rack, count. */
public final class ToldTest {
    public static void main(String[] args) {
        told();
        shows();
        wearOfShut();
        wearOfOpen();
        rack();
        count();
        Check.done();
    }

    private static void told() {
        LetterLocks x = new LetterLocks();
        x.lock(865);
        x.lock(7);
        x.turn(0, 0, 1);
        x.turn(0, 1, 2);
        x.turn(0, 2, 3);
        x.turn(0, 3, 4);
        x.put(0, 2);
        x.pass(1);
        int[] open = {216 + 72 + 18 + 4, 1, 2, 0, 865, 865};
        for (int what = 0; what < 6; what++) {
            Check.due("told of an open one " + what, open[what], x.told(0, what));
        }
        x.shut(0);
        x.lose(0, true);
        int[] shut = {2 * 216 + 4 * 36 + 0 * 6 + 2, 0, 2, 1, 865, -1};
        for (int what = 0; what < 6; what++) {
            Check.due("told of a shut, lost one " + what, shut[what], x.told(0, what));
        }
    }

    private static void shows() {
        LetterLocks x = new LetterLocks();
        x.lock(0);
        x.shut(0);
        x.turn(0, 0, 5);
        x.turn(0, 1, 4);
        x.turn(0, 2, 3);
        x.turn(0, 3, 2);
        x.pass(2);
        Check.due("the most worn", 5 * 216 + 4 * 36 + 3 * 6 + 2, x.told(0, 4));
        x.turn(0, 0, 1);
        x.turn(0, 1, 5);
        x.turn(0, 2, 0);
        x.turn(0, 3, 1);
        x.pass(1);
        Check.due("less worn ones don't show", 5 * 216 + 4 * 36 + 3 * 6 + 2, x.told(0, 4));
        x.pass(1);
        Check.due("of several the least", 216 + 4 * 36 + 0 * 6 + 1, x.told(0, 4));
        x.pass(1);
        Check.due("more worn ones show", 216 + 5 * 36 + 0 * 6 + 1, x.told(0, 4));
    }

    private static void wearOfShut() {
        LetterLocks x = new LetterLocks();
        x.lock(0);
        x.shut(0);
        x.pass(3);
        x.turn(0, 2, 5);
        x.pass(2);
        int[][] worn = {{0, 5, 0, 0, 0, 0}, {0, 0, 5, 0, 0, 0}, {0, 0, 0, 3, 0, 2}, {0, 0, 0, 0, 5, 0}};
        allWear(x, worn);
    }

    private static void wearOfOpen() {
        LetterLocks x = new LetterLocks();
        x.lock(2 * 216 + 3 * 36 + 4 * 6 + 5);
        x.pass(9);
        allWear(x, new int[4][6]);
        x.put(0, 0);
        x.turn(0, 1, 1);
        x.pass(4);
        int[][] worn = {{0, 0, 8, 0, 0, 0}, {0, 0, 0, 8, 0, 0}, {0, 0, 0, 0, 8, 0}, {0, 0, 0, 0, 0, 8}};
        allWear(x, worn);
        x.put(0, -1);
        x.pass(4);
        allWear(x, worn);
        x.rename(0, 0);
        x.put(0, 1);
        x.pass(1);
        int[][] more = {{2, 0, 8, 0, 0, 0}, {2, 0, 0, 8, 0, 0}, {2, 0, 0, 0, 8, 0}, {2, 0, 0, 0, 0, 8}};
        allWear(x, more);
    }

    private static void allWear(LetterLocks x, int[][] worn) {
        for (int ring = 0; ring < 4; ring++) {
            for (int letter = 0; letter < 6; letter++) {
                Check.due("wear of " + ring + " at " + letter, worn[ring][letter], x.wear(0, ring, letter));
            }
        }
    }

    private static void rack() {
        LetterLocks x = new LetterLocks();
        for (int i = 0; i < 4; i++) {
            x.lock(i);
        }
        x.put(0, 1);
        x.put(1, 1);
        x.put(2, 1);
        x.put(3, 0);
        x.shut(1);
        x.setPlaces(1, 5);
        x.setHours(1, 7, 9);
        int[] closed = {5, 3, 0, 2, 7, 9};
        for (int what = 0; what < 6; what++) {
            Check.due("rack " + what, closed[what], x.rack(1, what));
        }
        x.pass(7);
        int[] open = {5, 3, 1, 0, 7, 9};
        for (int what = 0; what < 6; what++) {
            Check.due("rack behind 7 hours " + what, open[what], x.rack(1, what));
        }
    }

    private static void count() {
        LetterLocks x = new LetterLocks();
        for (int i = 0; i < 5; i++) {
            x.lock(10 * i);
        }
        x.put(0, 0);
        x.put(1, 1);
        x.put(2, 2);
        x.shut(3);
        x.shut(2);
        x.turn(3, 0, 4);
        x.turn(4, 0, 5);
        x.turn(4, 0, 5);
        x.lose(0, true);
        x.lose(2, true);
        x.lose(4, true);
        x.lose(4, false);
        x.pass(30);
        int[] all = {30, 5, 3, 2, 2 * 4 * 30 + 2 * 4 * 60, 4, 3};
        for (int what = 0; what < 7; what++) {
            Check.due("count " + what, all[what], x.count(what));
        }
    }
}
