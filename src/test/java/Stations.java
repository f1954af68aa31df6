/** Stations that the tests begin with, and all that one tells. */
final class Stations {
    private Stations() {
    }

    /** Open locks in no rack, unworn, with the words 0, 185, 370 and so on, up to 1295 of the eighth one. */
    static LetterLocks open(int locks) {
        LetterLocks x = new LetterLocks();
        for (int i = 0; i < locks; i++) {
            x.lock(185 * i);
        }
        return x;
    }

    static LetterLocks with(int... words) {
        LetterLocks x = new LetterLocks();
        for (int word : words) {
            x.lock(word);
        }
        return x;
    }

    /** A shut lock whose rings stand at this word. */
    static LetterLocks shutAt(int word, int standing) {
        LetterLocks x = with(word);
        x.shut(0);
        standAt(x, 0, standing);
        return x;
    }

    static void standAt(LetterLocks x, int lock, int word) {
        x.turn(lock, 0, word / 216);
        x.turn(lock, 1, word / 36 % 6);
        x.turn(lock, 2, word / 6 % 6);
        x.turn(lock, 3, word % 6);
    }

    /** Open locks, so many of them in rack 0, which has these places. */
    static LetterLocks inRack(int locks, int inIt, int places) {
        LetterLocks x = open(locks);
        x.setPlaces(0, places);
        for (int i = 0; i < inIt; i++) {
            x.put(i, 0);
        }
        return x;
    }

    /**
     * All eight locks, in hour 7: open and shut ones, in racks and in none, known and lost ones, worn.
     * Rack 0 is full and open, rack 1 was open at night and shut locks 2 and 3, rack 2 is open and empty.
     */
    static LetterLocks mixed() {
        LetterLocks x = open(8);
        x.setPlaces(0, 2);
        x.setPlaces(2, 6);
        x.setHours(1, 22, 6);
        x.put(0, 0);
        x.put(1, 0);
        x.put(2, 1);
        x.put(3, 1);
        x.turn(1, 0, 5);
        x.turn(4, 2, 3);
        x.shut(1);
        x.shut(5);
        x.pass(2);
        standAt(x, 5, 1295);
        x.lose(3, true);
        x.lose(6, true);
        x.pass(5);
        return x;
    }

    /** All that can be asked of what there is; a lost word shows by the trials in which it is found. */
    static String told(LetterLocks x) {
        StringBuilder all = new StringBuilder();
        for (int what = 0; what < 7; what++) {
            all.append(x.count(what)).append(' ');
        }
        for (int rack = 0; rack < 3; rack++) {
            for (int what = 0; what < 6; what++) {
                all.append(x.rack(rack, what)).append(' ');
            }
        }
        int locks = x.count(1);
        for (int lock = 0; lock < locks; lock++) {
            for (int what = 0; what < 6; what++) {
                all.append(x.told(lock, what)).append(' ');
            }
            all.append(x.safe(lock)).append(": ");
            for (int ring = 0; ring < 4; ring++) {
                for (int letter = 0; letter < 6; letter++) {
                    all.append(x.wear(lock, ring, letter)).append(' ');
                }
            }
        }
        return all.toString();
    }
}
