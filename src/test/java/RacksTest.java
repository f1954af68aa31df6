/** Promises 8 to 10: setPlaces, setHours, put. */
public final class RacksTest {
    private static final int[] NO_RACKS = {Integer.MIN_VALUE, -2, 3, Integer.MAX_VALUE};

    public static void main(String[] args) {
        setPlaces();
        setHours();
        hoursOfTheDay();
        put();
        putIntoClosed();
        putIntoFull();
        putShut();
        putRefuses();
        Check.done();
    }

    private static LetterLocks withLocks(int locks) {
        LetterLocks x = new LetterLocks();
        for (int i = 0; i < locks; i++) {
            x.lock(100 * i);
        }
        return x;
    }

    private static void setPlaces() {
        LetterLocks x = withLocks(3);
        Check.due("places at first", 4, x.setPlaces(1, 6));
        Check.due("places then", 6, x.setPlaces(1, 1));
        Check.due("places", 1, x.rack(1, 0));
        Check.due("the others' places", 4, x.rack(0, 0));
        Check.refuses("places 0", Check.ARGUMENT, x, () -> x.setPlaces(1, 0));
        Check.refuses("places 7", Check.ARGUMENT, x, () -> x.setPlaces(1, 7));
        x.put(0, 2);
        x.put(1, 2);
        Check.refuses("more locks are in it", Check.STATE, x, () -> x.setPlaces(2, 1));
        Check.refuses("more locks, wrong places", Check.ARGUMENT, x, () -> x.setPlaces(2, 0));
        Check.due("as many locks are in it", 4, x.setPlaces(2, 2));
        x.shut(0);
        Check.refuses("a shut one takes a place", Check.STATE, x, () -> x.setPlaces(2, 1));
        for (int no : NO_RACKS) {
            Check.refuses("places of rack " + no, Check.INDEX, x, () -> x.setPlaces(no, 1));
            Check.refuses("no places of rack " + no, Check.INDEX, x, () -> x.setPlaces(no, 0));
        }
        Check.refuses("places of rack -1", Check.INDEX, x, () -> x.setPlaces(-1, 1));
    }

    private static void setHours() {
        LetterLocks x = withLocks(1);
        Check.due("hours at first", 24, x.setHours(0, 8, 20));
        Check.due("hours then", 25 * 8 + 20, x.setHours(0, 23, 24));
        Check.due("hours at last", 25 * 23 + 24, x.setHours(0, 5, 0));
        Check.due("from", 5, x.rack(0, 4));
        Check.due("to", 0, x.rack(0, 5));
        Check.due("another one's", 24, x.rack(1, 5));
        Check.refuses("from -1", Check.ARGUMENT, x, () -> x.setHours(0, -1, 1));
        Check.refuses("from 24", Check.ARGUMENT, x, () -> x.setHours(0, 24, 1));
        Check.refuses("to -1", Check.ARGUMENT, x, () -> x.setHours(0, 1, -1));
        Check.refuses("to 25", Check.ARGUMENT, x, () -> x.setHours(0, 1, 25));
        for (int no : NO_RACKS) {
            Check.refuses("hours of rack " + no, Check.INDEX, x, () -> x.setHours(no, 1, 2));
            Check.refuses("no hours of rack " + no, Check.INDEX, x, () -> x.setHours(no, 24, 25));
        }
        Check.refuses("hours of rack -1", Check.INDEX, x, () -> x.setHours(-1, 1, 2));
    }

    private static void hoursOfTheDay() {
        int[][] hours = {{0, 24}, {8, 20}, {0, 1}, {23, 24}, {22, 6}, {23, 0}, {1, 0}, {12, 12}, {0, 0}};
        String[] open = {
            "111111111111111111111111", "000000001111111111110000", "100000000000000000000000",
            "000000000000000000000001", "111111000000000000000011", "000000000000000000000001",
            "011111111111111111111111", "000000000000000000000000", "000000000000000000000000",
        };
        for (int i = 0; i < hours.length; i++) {
            LetterLocks x = withLocks(0);
            x.setHours(2, hours[i][0], hours[i][1]);
            for (int hour = 0; hour < 72; hour++) {
                Check.due(hours[i][0] + " to " + hours[i][1] + " in hour " + hour,
                    open[i].charAt(hour % 24) - '0', x.rack(2, 2));
                x.pass(1);
            }
        }
    }

    private static void put() {
        LetterLocks x = withLocks(2);
        Check.due("from none", -1, x.put(0, 0));
        Check.due("its rack", 0, x.told(0, 2));
        Check.due("from 0", 0, x.put(0, 2));
        Check.due("from 2", 2, x.put(0, 2));
        Check.due("out", 2, x.put(0, -1));
        Check.due("out again", -1, x.put(0, -1));
        Check.due("its rack then", -1, x.told(0, 2));
        Check.due("locks in racks", 0, x.count(6));
        Check.due("open there", 1, x.told(0, 1));
    }

    private static void putIntoClosed() {
        LetterLocks x = withLocks(2);
        x.put(0, 1);
        x.setHours(1, 5, 6);
        x.setHours(0, 7, 7);
        Check.refuses("not open now", Check.STATE, x, () -> x.put(1, 1));
        Check.refuses("never open", Check.STATE, x, () -> x.put(0, 0));
        Check.due("there already, not open", 1, x.put(0, 1));
        Check.due("out at any hour", 1, x.put(0, -1));
        Check.refuses("not in again", Check.STATE, x, () -> x.put(0, 1));
        x.pass(5);
        Check.due("open now", -1, x.put(0, 1));
    }

    private static void putIntoFull() {
        LetterLocks x = withLocks(7);
        for (int i = 0; i < 4; i++) {
            x.put(i, 0);
        }
        Check.refuses("full", Check.STATE, x, () -> x.put(4, 0));
        Check.due("there already, full", 0, x.put(3, 0));
        x.setPlaces(0, 6);
        Check.due("a fifth place", -1, x.put(4, 0));
        Check.due("a sixth place", -1, x.put(5, 0));
        Check.refuses("six are full", Check.STATE, x, () -> x.put(6, 0));
        x.put(0, -1);
        Check.due("a place is free", -1, x.put(6, 0));
        Check.due("none has no places", 0, x.put(1, -1));
    }

    private static void putShut() {
        LetterLocks x = withLocks(2);
        x.put(0, 1);
        x.shut(0);
        x.shut(1);
        Check.refuses("shut, to another one", Check.STATE, x, () -> x.put(0, 2));
        Check.refuses("shut, out", Check.STATE, x, () -> x.put(0, -1));
        Check.refuses("shut, in", Check.STATE, x, () -> x.put(1, 2));
        Check.due("shut, there already", 1, x.put(0, 1));
        Check.due("shut, in none already", -1, x.put(1, -1));
        x.setHours(1, 7, 8);
        Check.due("shut, there already, not open", 1, x.put(0, 1));
    }

    private static void putRefuses() {
        LetterLocks x = withLocks(1);
        for (int no : NO_RACKS) {
            Check.refuses("put into " + no, Check.INDEX, x, () -> x.put(0, no));
        }
        Check.refuses("put -1", Check.INDEX, x, () -> x.put(-1, 0));
        Check.refuses("put 1", Check.INDEX, x, () -> x.put(1, 0));
        Check.refuses("put 1 into none", Check.INDEX, x, () -> x.put(1, -1));
        Check.refuses("put MIN", Check.INDEX, x, () -> x.put(Integer.MIN_VALUE, 0));
        x.shut(0);
        Check.refuses("put a shut one into 3", Check.INDEX, x, () -> x.put(0, 3));
    }
}
