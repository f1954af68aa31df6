/** Promises 8 to 10. */
final class RacksEdges {
    private RacksEdges() {
    }

    static void run() {
        placesFromNowOn();
        placesBefore();
        placesOfWhich();
        placesHowMany();
        placesForLocks();
        hoursFrom();
        hoursTo();
        hoursBefore();
        hoursOfWhich();
        hoursWhich();
        putOutAtAnyHour();
        putBefore();
        putWhich();
        putIntoWhich();
        putInAllCases();
        putShut();
        putNotOpen();
        putNotOpenOverMidnight();
        putThereAlready();
        putFull();
        putFullOfAllKinds();
    }

    private static void placesFromNowOn() {
        Doc.says(8, "`places`: its places from now on");
        for (int places = 1; places <= 6; places++) {
            LetterLocks x = Stations.open(8);
            x.setPlaces(1, places);
            x.pass(99);
            for (int lock = 0; lock < places; lock++) {
                Check.due(places + " places, into one of them", -1, x.put(lock, 1));
            }
            Check.due("places", places, x.rack(1, 0));
            Check.due("no place more", "IllegalStateException", Check.thrownBy(() -> x.put(7, 1)));
        }
    }

    private static void placesBefore() {
        Doc.says(8, "Returns those before.");
        for (int rack = 0; rack < 3; rack++) {
            int changed = rack;
            LetterLocks x = Edge.answers("at first", 4, LetterLocks::new, y -> y.setPlaces(changed, 6));
            Check.due("the largest", 6, x.setPlaces(changed, 1));
            Check.due("the least", 1, x.setPlaces(changed, 1));
            Check.due("the places then", 1, x.rack(changed, 0));
            Check.due("the next rack's", 4, x.rack((changed + 1) % 3, 0));
        }
    }

    private static void placesOfWhich() {
        Doc.says(8, "Throws `IndexOutOfBoundsException` if rack is not 0 to 2");
        Edge.range(Check.INDEX, 0, 2, Stations::mixed, (x, rack) -> x.setPlaces(rack, 3));
    }

    private static void placesHowMany() {
        Doc.says(8, "Throws `IllegalArgumentException` if places is not 1 to 6");
        Edge.range(Check.ARGUMENT, 1, 6, Stations::mixed, (x, places) -> x.setPlaces(2, places));
        Edge.refused("of a full rack 7 places", Check.ARGUMENT, Stations::mixed, x -> x.setPlaces(0, 7));
    }

    private static void placesForLocks() {
        Doc.says(8, "Throws `IllegalStateException` if more locks are in it");
        for (int in = 2; in <= 6; in++) {
            int locks = in;
            Edge.Made full = () -> Stations.inRack(8, locks, locks);
            Edge.refused("with " + locks + " in it one place less", Check.STATE, full, x -> x.setPlaces(0, locks - 1));
            Edge.refused("with " + locks + " in it one place", Check.STATE, full, x -> x.setPlaces(0, 1));
            Edge.answers("with " + locks + " in it as many", locks, full, x -> x.setPlaces(0, locks));
            Edge.answers("with " + locks + " in it the most", locks, full, x -> x.setPlaces(0, 6));
            Edge.answers("another rack's places", 4, full, x -> x.setPlaces(1, 1));
        }
        Edge.answers("an empty one, all locks in none", 4, () -> Stations.open(8), x -> x.setPlaces(0, 1));
        Edge.answers("with one in it", 4, () -> Stations.inRack(1, 1, 4), x -> x.setPlaces(0, 1));
        Edge.refused("with shut ones in it one place", Check.STATE, () -> allShut(2), x -> x.setPlaces(0, 1));
        LetterLocks gone = Stations.inRack(2, 2, 2);
        gone.put(0, -1);
        Check.due("with one gone out of it", 2, gone.setPlaces(0, 1));
    }

    private static LetterLocks allShut(int locks) {
        LetterLocks x = Stations.inRack(locks, locks, locks);
        for (int lock = 0; lock < locks; lock++) {
            x.shut(lock);
        }
        return x;
    }

    private static void hoursFrom() {
        Doc.says(9, "`from`: the hour of the day from which on it is open from now on, 0 to 23");
        Edge.range(Check.ARGUMENT, 0, 23, Stations::mixed, (x, from) -> x.setHours(1, from, 12));
        LetterLocks x = new LetterLocks();
        x.pass(23);
        x.setHours(0, 23, 24);
        Check.due("open in the hour from which on it is", 1, x.rack(0, 2));
        x.setHours(0, 22, 23);
        Check.due("from now on not", 0, x.rack(0, 2));
    }

    private static void hoursTo() {
        Doc.says(9, "`to`: the one ahead of which it is, 0 to 24");
        Edge.range(Check.ARGUMENT, 0, 24, Stations::mixed, (x, to) -> x.setHours(1, 12, to));
        LetterLocks x = new LetterLocks();
        x.setHours(0, 0, 1);
        Check.due("open ahead of it", 1, x.rack(0, 2));
        x.pass(1);
        Check.due("not open in it", 0, x.rack(0, 2));
    }

    private static void hoursBefore() {
        Doc.says(9, "Returns 25 times the one from which on it was, and the one ahead of which it was, added.");
        for (int rack = 0; rack < 3; rack++) {
            int changed = rack;
            LetterLocks x = Edge.answers("at first", 24, LetterLocks::new, y -> y.setHours(changed, 23, 24));
            Check.due("the largest", 25 * 23 + 24, x.setHours(changed, 0, 0));
            Check.due("the least", 0, x.setHours(changed, 1, 0));
            Check.due("from 1 to 0", 25, x.setHours(changed, 0, 1));
            Check.due("from 0 to 1", 1, x.setHours(changed, 0, 1));
            Check.due("the next rack's", 24, x.setHours((changed + 1) % 3, 0, 1));
        }
    }

    private static void hoursOfWhich() {
        Doc.says(9, "Throws `IndexOutOfBoundsException` if rack is not 0 to 2");
        Edge.range(Check.INDEX, 0, 2, Stations::mixed, (x, rack) -> x.setHours(rack, 8, 20));
    }

    private static void hoursWhich() {
        Doc.says(9, "Throws `IllegalArgumentException` if from is not 0 to 23, or to is not 0 to 24");
        Edge.range(Check.ARGUMENT, 0, 23, Stations::mixed, (x, from) -> x.setHours(0, from, from));
        Edge.range(Check.ARGUMENT, 0, 24, Stations::mixed, (x, to) -> x.setHours(2, 0, to));
        Edge.refused("from 24 to 24", Check.ARGUMENT, Stations::mixed, x -> x.setHours(1, 24, 24));
        Edge.refused("from -1 to 25", Check.ARGUMENT, Stations::mixed, x -> x.setHours(1, -1, 25));
    }

    private static LetterLocks inNeverOpenRack() {
        LetterLocks x = Stations.inRack(2, 1, 4);
        x.setHours(0, 7, 7);
        return x;
    }

    private static void putOutAtAnyHour() {
        Doc.says(10, "Puts a lock into a rack, or out of one (at any hour).");
        LetterLocks x = Edge.answers("out of one never open", 0, RacksEdges::inNeverOpenRack, y -> y.put(0, -1));
        Check.due("in none then", -1, x.told(0, 2));
        Check.due("open then", 1, x.told(0, 1));
        Check.due("the rack is empty", 0, x.rack(0, 1));
        LetterLocks in = Edge.answers("into one", -1, () -> Stations.open(8), y -> y.put(7, 2));
        Check.due("in it then", 2, in.told(7, 2));
        Check.due("just this one", 1, in.count(6));
    }

    private static void putBefore() {
        Doc.says(10, "Returns the rack before, -1 for none.");
        LetterLocks x = Edge.answers("from none", -1, () -> Stations.open(8), y -> y.put(0, 0));
        Check.due("from 0 to 2", 0, x.put(0, 2));
        Check.due("from 2 to 1", 2, x.put(0, 1));
        Check.due("from 1 to 1", 1, x.put(0, 1));
        Check.due("from 1 to none", 1, x.put(0, -1));
        Check.due("from none to none", -1, x.put(0, -1));
    }

    private static void putWhich() {
        Doc.says(10, "Throws `IndexOutOfBoundsException` if there is no such lock, or rack is not -1 to 2");
        Edge.lockNumbers((x, lock) -> x.put(lock, 2));
        Edge.lockNumbers((x, lock) -> x.put(lock, -1));
    }

    private static void putIntoWhich() {
        Doc.says(10, "`rack`: the rack, or -1 for none");
        Edge.range(Check.INDEX, -1, 2, Stations::mixed, (x, rack) -> x.put(4, rack));
        Edge.range(Check.INDEX, -1, 2, () -> Stations.open(1), (x, rack) -> x.put(0, rack));
    }

    /** Shut or open, from any rack to any, each open or not and full or not. */
    private static void putInAllCases() {
        Doc.says(10, "Throws `IllegalStateException` if it is shut, unless it is there already; "
            + "or the rack is another one than it is in, and not open now, or full");
        for (int i = 0; i < 4 * 4 * 16; i++) {
            int from = i / 64 - 1;
            int to = i / 16 % 4 - 1;
            boolean isShut = i / 8 % 2 == 1;
            boolean fromIsOpen = i / 4 % 2 == 1;
            boolean isOpen = i / 2 % 2 == 1;
            boolean isFull = i % 2 == 1;
            Edge.Made made = () -> fromTo(from, to, isShut, fromIsOpen, isOpen, isFull);
            String what = (isShut ? "shut, from " : "open, from ") + from + (fromIsOpen ? "" : " not open") + " to " + to
                + (isOpen ? "" : " not open") + (isFull ? " full" : "");
            boolean isThere = from == to;
            if (isShut && !isThere || to != -1 && !isThere && (!isOpen || isFull)) {
                Edge.refused(what, Check.STATE, made, x -> x.put(7, to));
            } else {
                LetterLocks x = Edge.answers(what, from, made, y -> y.put(7, to));
                Check.due(what + ", its rack then", to, x.told(7, 2));
                Check.due(what + ", is open", isShut ? 0 : 1, x.told(7, 1));
            }
        }
    }

    private static LetterLocks fromTo(int from, int to, boolean isShut, boolean fromIsOpen, boolean isOpen, boolean isFull) {
        LetterLocks x = Stations.open(8);
        x.put(7, from);
        if (from != -1) {
            x.setHours(from, 0, fromIsOpen ? 24 : 0);
        }
        if (to != -1) {
            x.setPlaces(to, 2);
            x.setHours(to, 0, 24);
            for (int lock = 0; isFull && x.rack(to, 1) < 2; lock++) {
                x.put(lock, to);
            }
            x.setHours(to, 0, isOpen ? 24 : 0);
        }
        if (isShut) {
            x.shut(7);
        }
        return x;
    }

    private static void putShut() {
        Doc.says(10, "Throws `IllegalStateException` if it is shut, unless it is there already; "
            + "or the rack is another one than it is in, and not open now, or full");
        Edge.refused("a shut one from 0 out", Check.STATE, Stations::mixed, x -> x.put(1, -1));
        Edge.refused("a shut one from 0 to 2", Check.STATE, Stations::mixed, x -> x.put(1, 2));
        Edge.refused("a shut one from none to 0", Check.STATE, () -> Stations.shutAt(0, 0), x -> x.put(0, 0));
        Edge.refused("one shut by its rack out", Check.STATE, Stations::mixed, x -> x.put(2, -1));
        Edge.answers("a shut one there already, in 0", 0, Stations::mixed, x -> x.put(1, 0));
        Edge.answers("a shut one there already, in 1, which is not open", 1, Stations::mixed, x -> x.put(3, 1));
        LetterLocks x = Edge.answers("a shut one there already, in none", -1, Stations::mixed, y -> y.put(5, -1));
        Check.due("is shut still", 0, x.told(5, 1));
    }

    private static void putNotOpen() {
        Doc.says(10, "the rack is another one than it is in, and not open now");
        Edge.Made ahead = () -> atHour(7, 8, 20);
        Edge.Made last = () -> atHour(19, 8, 20);
        Edge.refused("ahead of the first hour", Check.STATE, ahead, x -> x.put(0, 1));
        Edge.answers("in the first hour", -1, () -> atHour(8, 8, 20), x -> x.put(0, 1));
        Edge.answers("in the last hour", -1, last, x -> x.put(0, 1));
        Edge.refused("behind the last hour", Check.STATE, () -> atHour(20, 8, 20), x -> x.put(0, 1));
        Edge.refused("never open", Check.STATE, () -> atHour(8, 8, 8), x -> x.put(0, 1));
        Edge.answers("into another one, which is open", -1, ahead, x -> x.put(0, 0));
        Edge.refused("from an open one, to one not open", Check.STATE, () -> {
            LetterLocks x = atHour(7, 8, 20);
            x.put(0, 2);
            return x;
        }, x -> x.put(0, 1));
    }

    private static LetterLocks atHour(int hour, int from, int to) {
        LetterLocks x = Stations.open(2);
        x.setHours(1, from, to);
        x.pass(hour);
        return x;
    }

    private static void putNotOpenOverMidnight() {
        Doc.says(10, "and not open now");
        Edge.refused("in hour 21", Check.STATE, () -> atHour(21, 22, 6), x -> x.put(0, 1));
        Edge.answers("in hour 22", -1, () -> atHour(22, 22, 6), x -> x.put(0, 1));
        Edge.answers("in hour 24", -1, () -> atHour(24, 22, 6), x -> x.put(0, 1));
        Edge.answers("in hour 29", -1, () -> atHour(29, 22, 6), x -> x.put(0, 1));
        Edge.refused("in hour 30", Check.STATE, () -> atHour(30, 22, 6), x -> x.put(0, 1));
    }

    private static void putThereAlready() {
        Doc.says(10, "or the rack is another one than it is in");
        Edge.answers("there already, never open", 0, RacksEdges::inNeverOpenRack, x -> x.put(0, 0));
        Edge.answers("there already, full", 0, () -> Stations.inRack(4, 4, 4), x -> x.put(3, 0));
        LetterLocks x = Edge.answers("there already, full and not open", 0, () -> {
            LetterLocks y = Stations.inRack(6, 6, 6);
            y.setHours(0, 7, 7);
            return y;
        }, y -> y.put(5, 0));
        Check.due("still as many in it", 6, x.rack(0, 1));
        Check.due("in it still", 0, x.told(5, 2));
    }

    private static void putFull() {
        Doc.says(10, "or full");
        for (int places = 1; places <= 6; places++) {
            int all = places;
            LetterLocks x = Edge.answers("into the last place of " + all, -1, () -> Stations.inRack(8, all - 1, all),
                y -> y.put(7, 0));
            Check.due("all places are taken", all, x.rack(0, 1));
            Edge.refused("into a full one of " + all, Check.STATE, () -> Stations.inRack(8, all, all), y -> y.put(7, 0));
        }
        Edge.answers("another one than the full one", -1, () -> Stations.inRack(8, 6, 6), x -> x.put(7, 1));
        Edge.answers("out of a full one", 0, () -> Stations.inRack(8, 6, 6), x -> x.put(5, -1));
        Edge.answers("none is never full", -1, () -> Stations.open(8), x -> x.put(7, -1));
        Edge.refused("from another one into a full one", Check.STATE, () -> {
            LetterLocks x = Stations.inRack(3, 2, 2);
            x.put(2, 1);
            return x;
        }, x -> x.put(2, 0));
    }

    private static void putFullOfAllKinds() {
        Doc.says(10, "or full");
        Edge.refused("into one full of shut ones", Check.STATE, () -> {
            LetterLocks x = allShut(6);
            x.lock(3);
            return x;
        }, x -> x.put(6, 0));
        LetterLocks x = Stations.inRack(7, 6, 6);
        x.put(2, -1);
        Check.due("into the place that got free", -1, x.put(6, 0));
        Check.due("full again", "IllegalStateException", Check.thrownBy(() -> x.put(2, 0)));
        LetterLocks more = Stations.inRack(5, 4, 4);
        more.setPlaces(0, 5);
        Check.due("into a place more", -1, more.put(4, 0));
    }
}
