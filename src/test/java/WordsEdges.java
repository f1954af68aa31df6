/** Promises 15 to 17. */
final class WordsEdges {
    private WordsEdges() {
    }

    static void run() {
        apartAllRings();
        apartWords();
        trialFromOne();
        trialWhich();
        trialWord();
        safeAmongThem();
        safeWhich();
    }

    private static void apartAllRings() {
        Doc.says(15, "Returns how many turns it takes from the one to the other one, all rings added.");
        int most = 3 * 259;
        for (Edge.Made made : new Edge.Made[] {LetterLocks::new, Stations::mixed}) {
            Edge.onlyTells("the least from itself", 0, made, x -> x.apart(0, 0));
            Edge.onlyTells("the largest from itself", 0, made, x -> x.apart(1295, 1295));
            Edge.onlyTells("all rings around", 4, made, x -> x.apart(0, 1295));
            Edge.onlyTells("all rings around, back", 4, made, x -> x.apart(1295, 0));
            Edge.onlyTells("the most", 12, made, x -> x.apart(0, most));
            Edge.onlyTells("the most, back", 12, made, x -> x.apart(most, 0));
        }
        int[] worth = {216, 36, 6, 1};
        int[] apart = {0, 1, 2, 3, 2, 1};
        LetterLocks x = new LetterLocks();
        for (int ring = 0; ring < 4; ring++) {
            for (int letter = 0; letter < 6; letter++) {
                Check.due("ring " + ring + " alone, to " + letter, apart[letter], x.apart(0, worth[ring] * letter));
                Check.due("ring " + ring + " alone, from 1295 less " + letter, apart[letter],
                    x.apart(1295 - worth[ring] * letter, 1295));
            }
        }
    }

    private static void apartWords() {
        Doc.says(15, "Throws `IllegalArgumentException` if a or b is not 0 to 1295");
        Edge.range(Check.ARGUMENT, 0, 1295, Stations::mixed, (x, a) -> x.apart(a, 0));
        Edge.range(Check.ARGUMENT, 0, 1295, Stations::mixed, (x, b) -> x.apart(1295, b));
        Edge.range(Check.ARGUMENT, 0, 1295, LetterLocks::new, (x, both) -> x.apart(both, both));
    }

    private static void trialFromOne() {
        Doc.says(16, "Returns which one it is of the words that a thief tries at this lock, from 1.");
        Edge.onlyTells("the first", 1, () -> Stations.open(8), x -> x.trial(7, 0));
        Edge.onlyTells("the last", 1296, () -> Stations.open(8), x -> x.trial(0, 1295));
        LetterLocks x = Stations.shutAt(0, 1295);
        x.pass(1);
        Check.due("the one that shows", 1, x.trial(0, 1295));
        Check.due("the one that stands at the last places", 1296, x.trial(0, 4 * 259));
        Check.due("the last one but one", 1295, x.trial(0, 4 * 259 - 1));
        Check.due("of sum 1 the least, 0555", 2, x.trial(0, 1295 - 5 * 216));
        Check.due("of sum 1 the largest, 5550", 5, x.trial(0, 1290));
        eachOnce(0, 0);
        eachOnce(1295, 4);
        eachOnce(1234, 50);
    }

    /** A lock worn for some hours open in a rack and for as many shut: each trial is that of just one word. */
    private static void eachOnce(int word, int hours) {
        boolean[] taken = new boolean[1297];
        for (int first = 0; first < 1296; first += 432) {
            LetterLocks x = Stations.with(word);
            x.put(0, 0);
            for (int hour = 0; hour < hours; hour++) {
                x.pass(1);
            }
            x.shut(0);
            x.pass(hours + 1);
            for (int tried = first; tried < first + 432; tried++) {
                int trial = x.trial(0, tried);
                Check.due("of " + tried + " the trial is one of its own", true,
                    trial >= 1 && trial <= 1296 && !taken[trial]);
                taken[Math.max(0, Math.min(1296, trial))] = true;
            }
        }
    }

    private static void trialWhich() {
        Doc.says(16, "Throws `IndexOutOfBoundsException` if there is no such lock");
        Edge.lockNumbers((x, lock) -> x.trial(lock, 0));
        Edge.lockNumbers((x, lock) -> x.trial(lock, 1295));
    }

    private static void trialWord() {
        Doc.says(16, "Throws `IllegalArgumentException` if word is not 0 to 1295");
        Edge.range(Check.ARGUMENT, 0, 1295, Stations::mixed, (x, word) -> x.trial(0, word));
        Edge.range(Check.ARGUMENT, 0, 1295, () -> Stations.open(1), (x, word) -> x.trial(0, word));
    }

    private static void safeAmongThem() {
        Doc.says(17, "Returns in how many trials a thief finds its word (its place among them).");
        Edge.onlyTells("the first", 1, () -> Stations.open(8), x -> x.safe(0));
        Edge.onlyTells("the last", 1296, () -> Stations.open(8), x -> x.safe(7));
        LetterLocks x = Stations.open(8);
        x.put(7, 0);
        x.pass(1);
        Check.due("the last, worn", 1, x.safe(7));
        x.shut(7);
        Check.due("shut too", 1, x.safe(7));
        x.lose(7, true);
        Check.due("lost too", 1, x.safe(7));
        for (int lock = 0; lock < 8; lock++) {
            Check.due("the trial of its word", x.trial(lock, 185 * lock), x.safe(lock));
        }
    }

    private static void safeWhich() {
        Doc.says(17, "Throws `IndexOutOfBoundsException` if there is no such lock");
        Edge.lockNumbers((x, lock) -> x.safe(lock));
    }
}
