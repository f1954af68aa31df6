/** Promises 1 to 7. */
final class LocksEdges {
    private LocksEdges() {
    }

    static void run() {
        newObject();
        lockNew();
        lockNumber();
        lockWord();
        lockTheNinth();
        turnOpenOrShut();
        turnHowMany();
        turnWhich();
        turnLetter();
        openAtWord();
        openStays();
        openThen();
        openWhich();
        shutOne();
        shutWhere();
        shutWhich();
        shutTwice();
        renameKnown();
        renameBefore();
        renameWhich();
        renameWord();
        renameShut();
        loseFromNowOn();
        loseOrFind();
        loseWhich();
    }

    private static void newObject() {
        Doc.says(1, "Creates a station without locks, in the hour 0.");
        for (int what = 0; what < 7; what++) {
            int asked = what;
            Edge.answers("count " + what, 0, LetterLocks::new, x -> x.count(asked));
        }
        Edge.refused("told of the first lock", Check.INDEX, LetterLocks::new, x -> x.told(0, 0));
        Edge.answers("weakest", -1, LetterLocks::new, x -> x.weakest());
        Edge.answers("mean", 0.0, LetterLocks::new, x -> x.mean());
        Edge.answers("none to shut", 0, LetterLocks::new, x -> x.pass(99));
        Edge.answers("the first lock", 0, LetterLocks::new, x -> x.lock(0));
        LetterLocks other = Stations.mixed();
        String before = Stations.told(new LetterLocks());
        other.setPlaces(1, 6);
        Check.due("each is by itself, what a new one tells", before, Stations.told(new LetterLocks()));
    }

    private static void lockNew() {
        Doc.says(2, "A new lock.");
        LetterLocks x = Edge.answers("beside others", 7, () -> {
            LetterLocks y = Stations.with(1, 2, 3, 4, 5, 6, 7);
            y.shut(6);
            y.lose(6, true);
            y.pass(9);
            return y;
        }, y -> y.lock(865));
        int[] fresh = {0, 1, -1, 0, 0, 865};
        for (int what = 0; what < 6; what++) {
            Check.due("told of it " + what, fresh[what], x.told(7, what));
        }
        for (int i = 0; i < 24; i++) {
            Check.due("its wear", 0, x.wear(7, i / 6, i % 6));
        }
    }

    private static void lockNumber() {
        Doc.says(2, "Returns its number.");
        Edge.answers("the first one", 0, LetterLocks::new, x -> x.lock(1295));
        LetterLocks x = Edge.answers("the eighth one", 7, () -> Stations.open(7), y -> y.lock(0));
        Check.due("locks then", 8, x.count(1));
        Check.due("its word", 0, x.told(7, 5));
    }

    private static void lockWord() {
        Doc.says(2, "Throws `IllegalArgumentException` if word is not 0 to 1295");
        Edge.range(Check.ARGUMENT, 0, 1295, LetterLocks::new, (x, word) -> x.lock(word));
        Edge.range(Check.ARGUMENT, 0, 1295, () -> Stations.open(7), (x, word) -> x.lock(word));
        LetterLocks x = Stations.with(0, 1295);
        Check.due("the least word", 0, x.told(0, 5));
        Check.due("the largest word", 1295, x.told(1, 5));
    }

    private static void lockTheNinth() {
        Doc.says(2, "Throws `IllegalStateException` if there are 8");
        Edge.refused("a ninth one", Check.STATE, () -> Stations.open(8), x -> x.lock(0));
        Edge.refused("a ninth one among all kinds", Check.STATE, Stations::mixed, x -> x.lock(1295));
    }

    private static void turnOpenOrShut() {
        Doc.says(3, "Turns a ring of a lock, open or shut; by that alone none opens.");
        LetterLocks shut = Edge.answers("the last ring to its word", 1, () -> Stations.shutAt(865, 864), x -> x.turn(0, 3, 1));
        Check.due("stands at its word", 865, shut.told(0, 0));
        Check.due("is shut", 0, shut.told(0, 1));
        LetterLocks open = Edge.answers("an open one", 3, () -> Stations.with(865), x -> x.turn(0, 1, 3));
        Check.due("stands elsewhere", 108, open.told(0, 0));
        Check.due("is open", 1, open.told(0, 1));
        Check.due("no wear", 0, open.count(4));
    }

    private static void turnHowMany() {
        Doc.says(3, "Returns how many turns it takes.");
        for (int ring = 0; ring < 4; ring++) {
            int turned = ring;
            Edge.answers("to where it stands", 0, () -> Stations.open(1), x -> x.turn(0, turned, 0));
            Edge.answers("on by one", 1, () -> Stations.open(1), x -> x.turn(0, turned, 1));
            Edge.answers("the most", 3, () -> Stations.open(1), x -> x.turn(0, turned, 3));
            Edge.answers("back by one, around", 1, () -> Stations.open(1), x -> x.turn(0, turned, 5));
            LetterLocks x = Edge.answers("on by one, around", 1, () -> Stations.shutAt(0, 1295), y -> y.turn(0, turned, 0));
            Check.due("that ring is at 0 then", 0, x.turn(0, turned, 0));
        }
    }

    private static void turnWhich() {
        Doc.says(3, "Throws `IndexOutOfBoundsException` if there is no such lock, or ring is not 0 to 3");
        Edge.lockNumbers((x, lock) -> x.turn(lock, 0, 1));
        Edge.range(Check.INDEX, 0, 3, Stations::mixed, (x, ring) -> x.turn(0, ring, 1));
    }

    private static void turnLetter() {
        Doc.says(3, "Throws `IllegalArgumentException` if letter is not 0 to 5");
        Edge.range(Check.ARGUMENT, 0, 5, Stations::mixed, (x, letter) -> x.turn(7, 3, letter));
        Edge.range(Check.ARGUMENT, 0, 5, Stations::mixed, (x, letter) -> x.turn(1, 0, letter));
    }

    private static void openAtWord() {
        Doc.says(4, "Opens a lock at its word, as it stands;");
        for (int word : new int[] {0, 1295}) {
            LetterLocks x = Edge.answers("at " + word, true, () -> Stations.shutAt(word, word), y -> y.open(0));
            Check.due("open then", 1, x.told(0, 1));
            Check.due("as it stands", word, x.told(0, 0));
            Check.due("no turns but the 8 ahead of it", 8, x.count(5));
        }
        LetterLocks x = Edge.answers("one below", false, () -> Stations.shutAt(1295, 1294), y -> y.open(0));
        Check.due("shut then", 0, x.told(0, 1));
        Edge.answers("one above", false, () -> Stations.shutAt(0, 1), y -> y.open(0));
        LetterLocks mixed = Edge.answers("mixed to its word", 310, () -> Stations.with(310), y -> y.shut(0));
        Check.due("shut there", 0, mixed.told(0, 1));
        Check.due("opened there", true, mixed.open(0));
    }

    private static void openStays() {
        Doc.says(4, "an open one stays open.");
        LetterLocks x = Edge.answers("away from its word", true, () -> Stations.with(1295), y -> y.open(0));
        Check.due("open then", 1, x.told(0, 1));
        Edge.answers("at its word", true, () -> Stations.with(0), y -> y.open(0));
    }

    private static void openThen() {
        Doc.says(4, "Returns whether it is open then.");
        for (int i = 0; i < 1296; i++) {
            int standing = i;
            LetterLocks x = Edge.answers("shut, at " + i, i == 777, () -> Stations.shutAt(777, standing), y -> y.open(0));
            Check.due("told whether it is open", i == 777 ? 1 : 0, x.told(0, 1));
        }
        LetterLocks x = Stations.shutAt(777, 777);
        x.open(0);
        Check.due("open, at its word", true, x.open(0));
        x.turn(0, 3, 0);
        Check.due("open, away from its word", true, x.open(0));
        x.shut(0);
        Check.due("shut again", false, x.open(0));
    }

    private static void openWhich() {
        Doc.says(4, "Throws `IndexOutOfBoundsException` if there is no such lock");
        Edge.lockNumbers((x, lock) -> x.open(lock));
    }

    private static void shutOne() {
        Doc.says(5, "Shuts a lock.");
        for (int i = 0; i < 8; i++) {
            LetterLocks x = Stations.open(8);
            x.put(i, 2);
            x.lose(i, true);
            x.shut(i);
            for (int lock = 0; lock < 8; lock++) {
                Check.due(i + " shut, " + lock + " is open", lock == i ? 0 : 1, x.told(lock, 1));
            }
            Check.due("in its rack still", 2, x.told(i, 2));
            Check.due("lost still", 1, x.told(i, 3));
            Check.due("no wear", 0, x.count(4));
        }
    }

    private static void shutWhere() {
        Doc.says(5, "Returns the word at which its rings stand then.");
        LetterLocks x = Edge.answers("from 0", 310, () -> Stations.open(8), y -> y.shut(0));
        Check.due("just this one is shut", 7, x.count(2));
        Check.due("the others stand as before", 0, x.told(1, 0));
        Check.due("no turns", 0, x.count(5));
        x.turn(7, 0, 5);
        x.turn(7, 1, 4);
        x.turn(7, 2, 3);
        x.turn(7, 3, 2);
        Check.due("around to 0", 0, x.shut(7));
        x.turn(6, 0, 4);
        x.turn(6, 1, 3);
        x.turn(6, 2, 2);
        x.turn(6, 3, 1);
        Check.due("just not around", 1295, x.shut(6));
    }

    private static void shutWhich() {
        Doc.says(5, "Throws `IndexOutOfBoundsException` if there is no such lock");
        Edge.lockNumbers((x, lock) -> x.shut(lock));
    }

    private static void shutTwice() {
        Doc.says(5, "Throws `IllegalStateException` if it is shut");
        Edge.refused("one shut by shut()", Check.STATE, Stations::mixed, x -> x.shut(1));
        Edge.refused("one shut by its rack", Check.STATE, Stations::mixed, x -> x.shut(2));
        Edge.refused("one shut at its word", Check.STATE, () -> Stations.shutAt(1295, 1295), x -> x.shut(0));
    }

    private static void renameKnown() {
        Doc.says(6, "Gives an open lock another word, which is known then (also if the one before was lost).");
        LetterLocks x = Stations.open(2);
        x.lose(0, true);
        x.lose(1, true);
        Check.due("the lost one before", 0, x.rename(0, 1295));
        Check.due("known then", 0, x.told(0, 3));
        Check.due("the word then", 1295, x.told(0, 5));
        Check.due("the other one is lost still", 1, x.told(1, 3));
        x.rename(0, 1);
        Check.due("a known one stays known", 0, x.told(0, 3));
        Check.due("it was not lost", false, x.lose(0, true));
    }

    private static void renameBefore() {
        Doc.says(6, "Returns the one before.");
        Edge.answers("the least", 0, () -> Stations.open(8), x -> x.rename(0, 1295));
        Edge.answers("the largest", 1295, () -> Stations.open(8), x -> x.rename(7, 0));
        LetterLocks x = Edge.answers("the same again", 185, () -> Stations.open(8), y -> y.rename(1, 185));
        Check.due("the same word", 185, x.told(1, 5));
    }

    private static void renameWhich() {
        Doc.says(6, "Throws `IndexOutOfBoundsException` if there is no such lock");
        Edge.lockNumbers((x, lock) -> x.rename(lock, 77));
    }

    private static void renameWord() {
        Doc.says(6, "Throws `IllegalArgumentException` if word is not 0 to 1295");
        Edge.range(Check.ARGUMENT, 0, 1295, Stations::mixed, (x, word) -> x.rename(6, word));
    }

    private static void renameShut() {
        Doc.says(6, "Throws `IllegalStateException` if it is shut");
        Edge.refused("of one shut by shut() a new word", Check.STATE, Stations::mixed, x -> x.rename(1, 5));
        Edge.refused("of one shut by its rack, lost, a new word", Check.STATE, Stations::mixed, x -> x.rename(3, 5));
        Edge.refused("of a shut one that stands at its word a new word", Check.STATE,
            () -> Stations.shutAt(9, 9), x -> x.rename(0, 10));
        Edge.refused("of a shut one the same word", Check.STATE, () -> Stations.shutAt(9, 0), x -> x.rename(0, 9));
    }

    private static void loseFromNowOn() {
        Doc.says(7, "Loses the word of a lock, or finds it again.");
        Doc.says(7, "`lost`: whether it is lost from now on");
        LetterLocks x = Stations.open(2);
        x.lose(1, true);
        for (int day = 0; day < 5; day++) {
            Check.due("lost, behind hours", 1, x.told(1, 3));
            Check.due("its word", -1, x.told(1, 5));
            Check.due("the other one", 0, x.told(0, 3));
            x.pass(24);
        }
        x.shut(1);
        Stations.standAt(x, 1, 185);
        x.open(1);
        Check.due("lost, opened at its word", 1, x.told(1, 3));
        x.lose(1, false);
        Check.due("found", 0, x.told(1, 3));
        Check.due("its word again", 185, x.told(1, 5));
        x.pass(24);
        Check.due("found, behind hours", 185, x.told(1, 5));
    }

    private static void loseOrFind() {
        Doc.says(7, "Returns whether it was.");
        LetterLocks x = Edge.answers("a known one", false, () -> Stations.open(8), y -> y.lose(7, true));
        Check.due("lost then", 1, x.told(7, 3));
        Check.due("just this one", 1, x.count(3));
        Check.due("lost again", true, x.lose(7, true));
        Check.due("found", true, x.lose(7, false));
        Check.due("found again", false, x.lose(7, false));
        Check.due("its word is the one before", 1295, x.told(7, 5));
        Edge.answers("a shut one", false, () -> Stations.shutAt(3, 4), y -> y.lose(0, true));
    }

    private static void loseWhich() {
        Doc.says(7, "Throws `IndexOutOfBoundsException` if there is no such lock");
        Edge.lockNumbers((x, lock) -> x.lose(lock, true));
        Edge.lockNumbers((x, lock) -> x.lose(lock, false));
    }
}
