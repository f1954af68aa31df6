/** What the "Terms" say of an hour, step by step. */
final class HourEdges {
    private HourEdges() {
    }

    static void run() {
        shutWearsByOne();
        shutWearsAtMost();
        openInRackWearsByTwo();
        openInRackWearsAtMost();
        openInNoneDoesNotWear();
        wearsAheadOfShutting();
        shutsInClosedHours();
        shutsOverMidnight();
        shutOnesStay();
        shutsNoneInOpenRacks();
        nextHour();
    }

    private static void wears(LetterLocks x, int... wears) {
        for (int ring = 0; ring < 4; ring++) {
            for (int letter = 0; letter < 6; letter++) {
                Check.due("wear of " + ring + " at " + letter, wears[ring * 6 + letter], x.wear(0, ring, letter));
            }
        }
    }

    private static void shutWearsByOne() {
        Doc.says("Terms", "1. Each ring of each lock that is shut wears at the letter at which it stands: by 1 (at most 99).");
        LetterLocks x = Stations.shutAt(0, 5 * 216 + 4 * 36 + 5);
        x.pass(1);
        wears(x, 0, 0, 0, 0, 0, 1, 0, 0, 0, 0, 1, 0, 1, 0, 0, 0, 0, 0, 0, 0, 0, 0, 0, 1);
        LetterLocks inRack = Stations.open(8);
        inRack.put(7, 2);
        inRack.shut(7);
        inRack.pass(1);
        Check.due("in a rack too, the last lock, the last ring", 1, inRack.wear(7, 3, 4));
        Check.due("no other wear", 4, inRack.count(4));
    }

    private static void shutWearsAtMost() {
        Doc.says("Terms", "wears at the letter at which it stands: by 1 (at most 99).");
        LetterLocks x = Stations.shutAt(0, 1295);
        x.pass(98);
        Check.due("behind 98 hours", 98, x.wear(0, 0, 5));
        x.pass(1);
        Check.due("behind 99 hours", 99, x.wear(0, 0, 5));
        x.pass(1);
        Check.due("behind 100 hours", 99, x.wear(0, 0, 5));
        Check.due("all rings", 4 * 99, x.count(4));
        x.turn(0, 0, 4);
        x.pass(1);
        Check.due("the next letter wears", 1, x.wear(0, 0, 4));
        Check.due("no other one", 4 * 99 + 1, x.count(4));
    }

    private static void openInRackWearsByTwo() {
        Doc.says("Terms", "Of an open lock that is in a rack each ring wears at the letter of its word: by 2 (at most 99).");
        LetterLocks x = Stations.with(5 * 216 + 36 + 4);
        Stations.standAt(x, 0, 3 * 259);
        x.put(0, 2);
        x.pass(1);
        wears(x, 0, 0, 0, 0, 0, 2, 0, 2, 0, 0, 0, 0, 2, 0, 0, 0, 0, 0, 0, 0, 0, 0, 2, 0);
        LetterLocks all = Stations.open(8);
        for (int lock = 0; lock < 8; lock++) {
            all.put(lock, lock % 3);
        }
        all.pass(1);
        Check.due("all locks", 8 * 4 * 2, all.count(4));
    }

    private static void openInRackWearsAtMost() {
        Doc.says("Terms", "wears at the letter of its word: by 2 (at most 99).");
        LetterLocks even = Stations.with(0);
        even.put(0, 0);
        even.pass(49);
        Check.due("49 times 2", 98, even.wear(0, 0, 0));
        even.pass(1);
        Check.due("from 98", 99, even.wear(0, 0, 0));
        even.pass(1);
        Check.due("from 99", 99, even.wear(0, 0, 0));
        LetterLocks odd = Stations.with(0);
        odd.put(0, 0);
        odd.shut(0);
        Stations.standAt(odd, 0, 0);
        odd.pass(1);
        odd.open(0);
        odd.pass(48);
        Check.due("1 and 48 times 2", 97, odd.wear(0, 3, 0));
        odd.pass(1);
        Check.due("from 97", 99, odd.wear(0, 3, 0));
    }

    private static void openInNoneDoesNotWear() {
        Doc.says("Terms", "Of an open lock that is in a rack each ring wears");
        LetterLocks x = Stations.open(8);
        x.pass(99);
        Check.due("in none", 0, x.count(4));
        x.put(3, 1);
        x.put(3, -1);
        x.pass(1);
        Check.due("out of a rack", 0, x.count(4));
    }

    private static void wearsAheadOfShutting() {
        Doc.says("Terms", "An hour goes like this:");
        LetterLocks x = Stations.with(0);
        x.put(0, 0);
        x.setHours(0, 1, 2);
        x.pass(1);
        Check.due("still worn as an open one", 2, x.wear(0, 0, 0));
        Check.due("not yet as a shut one", 0, x.wear(0, 0, 1));
        Check.due("shut then", 0, x.told(0, 1));
        x.pass(1);
        Check.due("in the next hour as a shut one", 1, x.wear(0, 0, 1));
        Check.due("no more as an open one", 2, x.wear(0, 0, 0));
    }

    private static void shutsInClosedHours() {
        Doc.says("Terms", "2. Locks that are in a rack which is not open in this hour: an open one of these is shut.");
        LetterLocks x = Stations.open(1);
        x.put(0, 1);
        x.setHours(1, 0, 2);
        x.pass(2);
        Check.due("behind the last open hour", 1, x.told(0, 1));
        x.pass(1);
        Check.due("behind the first hour that is not open", 0, x.told(0, 1));
        Check.due("mixed", 310, x.told(0, 0));
        Check.due("still in it", 1, x.told(0, 2));
        LetterLocks ahead = Stations.open(1);
        ahead.put(0, 1);
        ahead.setHours(1, 1, 24);
        ahead.pass(1);
        Check.due("behind the hour ahead of the first open one", 0, ahead.told(0, 1));
    }

    private static void shutsOverMidnight() {
        Doc.says("Terms", "a rack which is not open in this hour");
        LetterLocks x = Stations.open(1);
        x.pass(22);
        x.setHours(1, 22, 2);
        x.put(0, 1);
        x.pass(4);
        Check.due("behind hours 22 to 25", 1, x.told(0, 1));
        x.pass(1);
        Check.due("behind hour 26", 0, x.told(0, 1));
        LetterLocks night = Stations.open(1);
        night.put(0, 1);
        night.setHours(1, 0, 23);
        night.pass(23);
        Check.due("behind hour 22", 1, night.told(0, 1));
        night.pass(1);
        Check.due("behind hour 23", 0, night.told(0, 1));
    }

    private static void shutOnesStay() {
        Doc.says("Terms", "an open one of these is shut.");
        LetterLocks x = Stations.with(0);
        x.put(0, 0);
        x.setHours(0, 5, 5);
        x.shut(0);
        Stations.standAt(x, 0, 0);
        Check.due("none is shut", 0, x.pass(30));
        Check.due("the shut one isn't mixed", 0, x.told(0, 0));
    }

    private static void shutsNoneInOpenRacks() {
        Doc.says("Terms", "2. Locks that are in a rack which is not open in this hour:");
        LetterLocks x = Stations.open(8);
        x.put(0, 0);
        x.put(1, 1);
        x.setHours(2, 5, 5);
        x.pass(48);
        Check.due("in open racks or in none", 8, x.count(2));
    }

    private static void nextHour() {
        Doc.says("Terms", "3. The hour is 1 greater.");
        LetterLocks x = new LetterLocks();
        x.pass(1);
        Check.due("without locks", 1, x.count(0));
        x.pass(23);
        Check.due("the next day", 24, x.count(0));
        LetterLocks all = Stations.mixed();
        all.pass(1);
        Check.due("with all locks", 8, all.count(0));
    }
}
