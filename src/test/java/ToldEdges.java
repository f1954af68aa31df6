/** Promises 11 to 14. */
final class ToldEdges {
    private ToldEdges() {
    }

    static void run() {
        toldStands();
        toldStates();
        toldShows();
        toldWord();
        toldChangesNothing();
        toldWhich();
        toldWhat();
        wearThere();
        wearChangesNothing();
        wearWhich();
        rackTold();
        rackOpenNow();
        rackHours();
        rackChangesNothing();
        rackWhich();
        countWithout();
        countAll();
        countMostWear();
        countTurns();
        countChangesNothing();
        countWhat();
    }

    private static void toldStands() {
        Doc.says(11, "`what`: 0 at which word its rings stand");
        Edge.answers("the least", 0, () -> Stations.shutAt(7, 0), x -> x.told(0, 0));
        Edge.answers("the largest", 1295, () -> Stations.shutAt(7, 1295), x -> x.told(0, 0));
        Edge.answers("of the last lock", 0, () -> Stations.open(8), x -> x.told(7, 0));
    }

    private static void toldStates() {
        Doc.says(11, "1 1 if it is open, else 0, 2 its rack, -1 for none, 3 1 if its word is lost, else 0");
        int[] open = {1, 0, 0, 0, 1, 0, 1, 1};
        int[] rack = {0, 0, 1, 1, -1, -1, -1, -1};
        int[] lost = {0, 0, 0, 1, 0, 0, 1, 0};
        for (int i = 0; i < 8; i++) {
            int lock = i;
            Edge.answers("open, of " + i, open[i], Stations::mixed, x -> x.told(lock, 1));
            Edge.answers("rack, of " + i, rack[i], Stations::mixed, x -> x.told(lock, 2));
            Edge.answers("lost, of " + i, lost[i], Stations::mixed, x -> x.told(lock, 3));
        }
        Edge.answers("the last rack", 2, () -> {
            LetterLocks x = Stations.open(8);
            x.put(7, 2);
            return x;
        }, x -> x.told(7, 2));
    }

    private static void toldShows() {
        Doc.says(11, "4 the word that shows");
        Edge.answers("unworn", 0, () -> Stations.open(8), x -> x.told(7, 4));
        LetterLocks x = Stations.open(8);
        x.put(7, 0);
        x.pass(1);
        Check.due("the largest", 1295, x.told(7, 4));
        Check.due("of another one", 0, x.told(6, 4));
        x.lose(7, true);
        Check.due("of a lost one too", 1295, x.told(7, 4));
        x.rename(7, 0);
        Check.due("not its word, but its wear", 1295, x.told(7, 4));
        x.pass(1);
        Check.due("as much worn ones, the least", 0, x.told(7, 4));
    }

    private static void toldWord() {
        Doc.says(11, "5 its word, -1 if it is lost");
        LetterLocks x = Stations.open(8);
        Check.due("the least", 0, x.told(0, 5));
        Check.due("the largest", 1295, x.told(7, 5));
        x.lose(0, true);
        Check.due("lost", -1, x.told(0, 5));
        x.lose(0, false);
        Check.due("found", 0, x.told(0, 5));
        Edge.answers("of a shut one", 9, () -> Stations.shutAt(9, 8), y -> y.told(0, 5));
    }

    private static void toldChangesNothing() {
        Doc.says(11, "Returns this.");
        int[] of = {1295, 0, -1, 0, 1295, 925};
        for (int what = 0; what < 6; what++) {
            int asked = what;
            Edge.onlyTells("of lock 5 " + what, of[what], Stations::mixed, x -> x.told(5, asked));
        }
    }

    private static void toldWhich() {
        Doc.says(11, "Throws `IndexOutOfBoundsException` if there is no such lock, or what is not 0 to 5");
        for (int what = 0; what < 6; what++) {
            int asked = what;
            Edge.lockNumbers((x, lock) -> x.told(lock, asked));
        }
    }

    private static void toldWhat() {
        Doc.says(11, "or what is not 0 to 5");
        Edge.range(Check.INDEX, 0, 5, Stations::mixed, (x, what) -> x.told(0, what));
        Edge.range(Check.INDEX, 0, 5, Stations::mixed, (x, what) -> x.told(7, what));
        Edge.refused("with no lock and 6 the call", Check.INDEX, Stations::mixed, x -> x.told(8, 6));
    }

    private static void wearThere() {
        Doc.says(12, "Returns the wear there.");
        LetterLocks x = Stations.shutAt(0, 4);
        x.turn(0, 0, 5);
        x.pass(99);
        Check.due("the first ring's last letter", 99, x.wear(0, 0, 5));
        Check.due("the first ring's first letter", 0, x.wear(0, 0, 0));
        Check.due("the second ring's first letter", 99, x.wear(0, 1, 0));
        Check.due("the last ring's last letter", 0, x.wear(0, 3, 5));
        Check.due("the last ring's last letter but one", 99, x.wear(0, 3, 4));
    }

    private static void wearChangesNothing() {
        Doc.says(12, "Returns the wear there.");
        Edge.onlyTells("of a shut lock", 5, Stations::mixed, x -> x.wear(5, 3, 5));
        Edge.onlyTells("of an open one, in a rack", 14, Stations::mixed, x -> x.wear(0, 3, 0));
        Edge.onlyTells("of an open one, in none", 0, Stations::mixed, x -> x.wear(7, 3, 5));
    }

    private static void wearWhich() {
        Doc.says(12, "Throws `IndexOutOfBoundsException` if there is no such lock, ring is not 0 to 3, or letter is not 0 to 5");
        Edge.lockNumbers((x, lock) -> x.wear(lock, 0, 0));
        Edge.lockNumbers((x, lock) -> x.wear(lock, 3, 5));
        Edge.range(Check.INDEX, 0, 3, Stations::mixed, (x, ring) -> x.wear(0, ring, 0));
        Edge.range(Check.INDEX, 0, 3, Stations::mixed, (x, ring) -> x.wear(7, ring, 5));
        Edge.range(Check.INDEX, 0, 5, Stations::mixed, (x, letter) -> x.wear(7, 0, letter));
        Edge.range(Check.INDEX, 0, 5, Stations::mixed, (x, letter) -> x.wear(0, 3, letter));
        Edge.refused("one letter too far of a ring ahead of others, the call", Check.INDEX, Stations::mixed,
            x -> x.wear(0, 1, 6));
        Edge.refused("one letter too low of a ring behind others, the call", Check.INDEX, Stations::mixed,
            x -> x.wear(0, 2, -1));
    }

    private static void rackTold() {
        Doc.says(13, "`what`: 0 its places, 1 locks in it, 2 1 if it is open now, else 0, 3 open locks in it");
        int[][] mixed = {{2, 2, 1, 1}, {4, 2, 0, 0}, {6, 0, 1, 0}};
        for (int rack = 0; rack < 3; rack++) {
            for (int what = 0; what < 4; what++) {
                int of = rack;
                int asked = what;
                Edge.answers("of rack " + rack + " " + what, mixed[rack][what], Stations::mixed, x -> x.rack(of, asked));
            }
        }
        for (int locks = 0; locks <= 6; locks++) {
            int in = locks;
            Edge.answers("locks in it", in, () -> Stations.inRack(8, in, 6), x -> x.rack(0, 1));
            Edge.answers("open locks in it", in, () -> Stations.inRack(8, in, 6), x -> x.rack(0, 3));
            Edge.answers("locks in the next one", 0, () -> Stations.inRack(8, in, 6), x -> x.rack(1, 1));
        }
    }

    private static void rackOpenNow() {
        Doc.says(13, "2 1 if it is open now, else 0");
        LetterLocks x = new LetterLocks();
        x.setHours(2, 23, 1);
        Check.due("in hour 0", 1, x.rack(2, 2));
        x.pass(1);
        Check.due("in hour 1", 0, x.rack(2, 2));
        x.pass(21);
        Check.due("in hour 22", 0, x.rack(2, 2));
        x.pass(1);
        Check.due("in hour 23", 1, x.rack(2, 2));
        x.pass(1);
        Check.due("in hour 24", 1, x.rack(2, 2));
        x.pass(1);
        Check.due("in hour 25", 0, x.rack(2, 2));
    }

    private static void rackHours() {
        Doc.says(13, "4 its first hour, 5 its last one");
        LetterLocks x = new LetterLocks();
        Check.due("the first hour at first", 0, x.rack(2, 4));
        Check.due("the last one at first", 24, x.rack(2, 5));
        x.setHours(2, 23, 0);
        Check.due("the largest first hour", 23, x.rack(2, 4));
        Check.due("the least last one", 0, x.rack(2, 5));
        Check.due("another one's", 24, x.rack(1, 5));
    }

    private static void rackChangesNothing() {
        Doc.says(13, "Returns this.");
        int[] of = {4, 2, 0, 0, 22, 6};
        for (int what = 0; what < 6; what++) {
            int asked = what;
            Edge.onlyTells("of rack 1 " + what, of[what], Stations::mixed, x -> x.rack(1, asked));
        }
    }

    private static void rackWhich() {
        Doc.says(13, "Throws `IndexOutOfBoundsException` if rack is not 0 to 2, or what is not 0 to 5");
        for (int i = 0; i < 6; i++) {
            int what = i;
            Edge.range(Check.INDEX, 0, 2, Stations::mixed, (x, rack) -> x.rack(rack, what));
        }
        Edge.range(Check.INDEX, 0, 5, Stations::mixed, (x, what) -> x.rack(0, what));
        Edge.range(Check.INDEX, 0, 5, Stations::mixed, (x, what) -> x.rack(2, what));
        Edge.refused("of rack 3 the 6", Check.INDEX, Stations::mixed, x -> x.rack(3, 6));
    }

    private static void counts(String when, LetterLocks x, int... counts) {
        for (int what = 0; what < 7; what++) {
            Check.due(when + " " + what, counts[what], x.count(what));
        }
    }

    private static void countWithout() {
        Doc.says(14, "`what`: 0 the hour, 1 locks, 2 open ones, 3 lost words, 4 all wear, 5 turns in all (by turn()), "
            + "6 locks in racks");
        LetterLocks x = new LetterLocks();
        counts("without locks", x, 0, 0, 0, 0, 0, 0, 0);
        x.pass(99);
        counts("without locks, later", x, 99, 0, 0, 0, 0, 0, 0);
    }

    private static void countAll() {
        Doc.says(14, "1 locks, 2 open ones, 3 lost words");
        LetterLocks x = Stations.open(8);
        counts("of all, at first", x, 0, 8, 8, 0, 0, 0, 0);
        x.setPlaces(0, 6);
        for (int lock = 0; lock < 8; lock++) {
            x.put(lock, lock < 6 ? 0 : 2);
            x.lose(lock, true);
        }
        counts("of all, in racks and lost", x, 0, 8, 8, 8, 0, 0, 8);
        for (int lock = 0; lock < 8; lock++) {
            x.shut(lock);
        }
        x.pass(1);
        counts("of all, shut", x, 1, 8, 0, 8, 32, 0, 8);
    }

    private static void countMostWear() {
        Doc.says(14, "4 all wear");
        LetterLocks x = HoursEdges.wornOut();
        Check.due("the most of all locks", 8 * 4 * 6 * 99, x.count(4));
        x.pass(1);
        Check.due("not more", 8 * 4 * 6 * 99, x.count(4));
    }

    private static void countTurns() {
        Doc.says(14, "5 turns in all (by turn())");
        LetterLocks x = Stations.open(8);
        x.turn(0, 0, 3);
        x.turn(7, 3, 5);
        x.turn(7, 3, 5);
        Check.due("3, 1 and 0", 4, x.count(5));
        x.shut(0);
        x.put(1, 0);
        x.setHours(0, 5, 5);
        x.pass(1);
        x.apart(0, 777);
        Check.due("not by shutting", 4, x.count(5));
        Check.thrownBy(() -> x.turn(8, 0, 3));
        Check.thrownBy(() -> x.turn(0, 0, 6));
        Check.due("not by a refused turn", 4, x.count(5));
    }

    private static void countChangesNothing() {
        Doc.says(14, "Returns this.");
        int[] all = {7, 8, 4, 2, 56 + 28 + 56 + 56 + 28, 1 + 3 + 8, 4};
        for (int what = 0; what < 7; what++) {
            int asked = what;
            Edge.onlyTells("count " + what, all[what], Stations::mixed, x -> x.count(asked));
        }
    }

    private static void countWhat() {
        Doc.says(14, "Throws `IndexOutOfBoundsException` if what is not 0 to 6");
        Edge.range(Check.INDEX, 0, 6, LetterLocks::new, (x, what) -> x.count(what));
        Edge.range(Check.INDEX, 0, 6, Stations::mixed, (x, what) -> x.count(what));
    }
}
