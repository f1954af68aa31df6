/** Promises 8 to 10, as they are mostly used: setPlaces, setHours, put. */
public final class RacksTest {
    public static void main(String[] args) {
        setPlaces();
        setHours();
        put();
        putIntoClosed();
        putIntoFull();
        putShut();
        Check.done();
    }

    private static void setPlaces() {
        LetterLocks x = Stations.open(3);
        Check.due("places at first", 4, x.setPlaces(1, 6));
        Check.due("places then", 6, x.setPlaces(1, 1));
        Check.due("places", 1, x.rack(1, 0));
        Check.due("the others' places", 4, x.rack(0, 0));
        x.put(0, 2);
        x.put(1, 2);
        Check.due("as many locks are in it", 4, x.setPlaces(2, 2));
    }

    private static void setHours() {
        LetterLocks x = Stations.open(1);
        Check.due("hours at first", 24, x.setHours(0, 8, 20));
        Check.due("hours then", 25 * 8 + 20, x.setHours(0, 23, 24));
        Check.due("hours at last", 25 * 23 + 24, x.setHours(0, 5, 0));
        Check.due("from", 5, x.rack(0, 4));
        Check.due("to", 0, x.rack(0, 5));
        Check.due("another one's", 24, x.rack(1, 5));
    }

    private static void put() {
        LetterLocks x = Stations.open(2);
        Check.due("from none", -1, x.put(0, 0));
        Check.due("its rack", 0, x.told(0, 2));
        Check.due("from 0", 0, x.put(0, 2));
        Check.due("from 2", 2, x.put(0, 2));
        Check.due("out", 2, x.put(0, -1));
        Check.due("out again", -1, x.put(0, -1));
        Check.due("its rack then", -1, x.told(0, 2));
        Check.due("locks in racks", 0, x.count(6));
        Check.due("open there", 1, x.told(0, 1));
    }

    private static void putIntoClosed() {
        LetterLocks x = Stations.open(2);
        x.put(0, 1);
        x.setHours(1, 5, 6);
        x.setHours(0, 7, 7);
        Check.due("there already, not open", 1, x.put(0, 1));
        Check.due("out at any hour", 1, x.put(0, -1));
        x.pass(5);
        Check.due("open now", -1, x.put(0, 1));
    }

    private static void putIntoFull() {
        LetterLocks x = Stations.open(7);
        for (int i = 0; i < 4; i++) {
            x.put(i, 0);
        }
        Check.due("there already, full", 0, x.put(3, 0));
        x.setPlaces(0, 6);
        Check.due("a fifth place", -1, x.put(4, 0));
        Check.due("a sixth place", -1, x.put(5, 0));
        x.put(0, -1);
        Check.due("a place is free", -1, x.put(6, 0));
        Check.due("none has no places", 0, x.put(1, -1));
    }

    private static void putShut() {
        LetterLocks x = Stations.open(2);
        x.put(0, 1);
        x.shut(0);
        x.shut(1);
        Check.due("shut, there already", 1, x.put(0, 1));
        Check.due("shut, in none already", -1, x.put(1, -1));
        x.setHours(1, 7, 8);
        Check.due("shut, there already, not open", 1, x.put(0, 1));
    }
}
