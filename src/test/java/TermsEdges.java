/** The document's beginning and its "Terms", but for the hour and what is thrown (those are HourEdges and the promises'). */
final class TermsEdges {
    private TermsEdges() {
    }

    static void run() {
        theWhole();
        mostCalls();
        mostHours();
        hourOfTheDay();
        letters();
        words();
        mostLocks();
        ringsAtFirst();
        locksAtFirst();
        lostWorksAsKnown();
        lostInAllCalls();
        turnsEitherWay();
        openStandsAnywhere();
        mixing();
        opensAtItsWord();
        racksAtFirst();
        openFromUpTo();
        openOverMidnight();
        neverOpen();
        takesAPlace();
        leastOfMostWorn();
        orderOfLetters();
        orderOfWords();
        changesNothing();
        firstNamedLocks();
        firstNamedRacksAndHours();
    }

    private static void theWhole() {
        Doc.onlyTells("What it is", "Letter locks for bicycles at a station.");
        Doc.onlyTells("Terms", "A lock has four rings of six letters and a word; it is turned letter by letter, "
            + "and opens at its word; rings wear where they rest, and the wear shows; words get lost, and are found again "
            + "by trying the letters that show the most; racks have places by the hour; and it is told how each lock stands, "
            + "how many turns a word takes, what the wear shows, in how many trials a thief would find a word, "
            + "which racks are full, and how the next hours will be.");
        Doc.onlyTells("Terms", "All numbers are whole, and / is cut towards 0.");
        Doc.onlyTells("Terms", "```text");
        Doc.onlyTells("What it is", "what later calls answer is free.");
        Doc.onlyTells("Not promised", "How the state is held inside the object is free, as are the speed of each call, "
            + "the text of toString and the behaviour of equals and hashCode. Use of one object from several threads at once "
            + "is not promised to be safe. Nothing is promised beyond the answers and state changes described above, "
            + "and nothing about an object after its 512th call.");
    }

    private static void mostCalls() {
        Doc.says("What it is", "An object is used for at most 512 calls after it has been made");
        LetterLocks x = new LetterLocks();
        x.lock(0);
        for (int call = 2; call < 512; call++) {
            x.turn(0, 0, call % 2 == 0 ? 3 : 0);
        }
        Check.due("the 512th call", 3 * 510, x.count(5));
    }

    private static void mostHours() {
        Doc.says("Terms", "Time is told in hours, from 0");
        LetterLocks x = new LetterLocks();
        Check.due("the first hour", 0, x.count(0));
        int last = 99 * 508;
        x.setHours(0, last % 24, last % 24 + 1);
        for (int call = 0; call < 508; call++) {
            x.pass(99);
        }
        Check.due("the last hour", last, x.count(0));
        Check.due("open in the last hour", 1, x.rack(0, 2));
    }

    private static void hourOfTheDay() {
        Doc.says("Terms", "the hour of the day is the hour by the remainder of 24");
        LetterLocks x = new LetterLocks();
        x.setHours(0, 0, 1);
        x.setHours(1, 23, 24);
        for (int hour = 0; hour <= 72; hour++) {
            Check.due("open from 0 to 1 in hour " + hour, hour == 0 || hour == 24 || hour == 48 || hour == 72 ? 1 : 0,
                x.rack(0, 2));
            Check.due("open from 23 to 24 in hour " + hour, hour == 23 || hour == 47 || hour == 71 ? 1 : 0, x.rack(1, 2));
            x.pass(1);
        }
    }

    private static void letters() {
        Doc.says("Terms", "Letters are numbers, 0 to 5.");
        LetterLocks x = Stations.open(1);
        int[] worth = {216, 36, 6, 1};
        for (int ring = 0; ring < 4; ring++) {
            for (int letter = 5; letter >= 0; letter--) {
                x.turn(0, ring, letter);
                Check.due("ring " + ring + " at " + letter, worth[ring] * letter, x.told(0, 0));
            }
        }
    }

    private static void words() {
        Doc.says("Terms", "A word is told as a number: 216 times the letter of the first ring, "
            + "36 times that of the second one, 6 times that of the third one, and that of the fourth one, added; 0 to 1295.");
        LetterLocks x = Stations.open(1);
        Check.due("the least", 0, x.told(0, 0));
        x.turn(0, 0, 1);
        Check.due("the first ring", 216, x.told(0, 0));
        x.turn(0, 1, 2);
        Check.due("the second ring", 216 + 72, x.told(0, 0));
        x.turn(0, 2, 3);
        Check.due("the third ring", 216 + 72 + 18, x.told(0, 0));
        x.turn(0, 3, 4);
        Check.due("the fourth ring", 216 + 72 + 18 + 4, x.told(0, 0));
        Stations.standAt(x, 0, 1295);
        Check.due("the largest", 1295, x.told(0, 0));
    }

    private static void mostLocks() {
        Doc.says("Terms", "Locks. There are at most 8, numbered from 0;");
        LetterLocks x = new LetterLocks();
        for (int number = 0; number < 8; number++) {
            Check.due("the number", number, x.lock(number));
            Check.due("locks then", number + 1, x.count(1));
            Check.due("its word", number, x.told(number, 5));
        }
        Edge.refused("a ninth one", Check.STATE, () -> Stations.open(8), y -> y.lock(8));
    }

    private static void ringsAtFirst() {
        Doc.says("Terms", "each has four rings, 0 to 3; each ring stands at a letter (0, at first), "
            + "and has wear, 0 to 99 (0, at first), at each of its letters");
        LetterLocks x = Stations.with(1295);
        Check.due("stands at first", 0, x.told(0, 0));
        for (int ring = 0; ring < 4; ring++) {
            for (int letter = 0; letter < 6; letter++) {
                Check.due("wear of " + ring + " at " + letter + " at first", 0, x.wear(0, ring, letter));
            }
        }
    }

    private static void locksAtFirst() {
        Doc.says("Terms", "A lock has a word, is open (at first) or shut, is in a rack or in none (at first), "
            + "and its word is known (at first) or lost");
        for (int lock : new int[] {0, 7}) {
            Edge.answers("open at first", 1, () -> Stations.open(8), x -> x.told(lock, 1));
            Edge.answers("in none at first", -1, () -> Stations.open(8), x -> x.told(lock, 2));
            Edge.answers("known at first", 0, () -> Stations.open(8), x -> x.told(lock, 3));
        }
    }

    private static void lostWorksAsKnown() {
        Doc.says("Terms", "a lost one works as a known one");
        LetterLocks lost = Stations.with(1295, 1294);
        LetterLocks known = Stations.with(1295, 1294);
        lost.lose(0, true);
        lost.put(0, 0);
        known.put(0, 0);
        Check.due("until", known.until(0), lost.until(0));
        Check.due("foresee", 1, lost.foresee(1, 0));
        Check.due("safe", 1296, lost.safe(0));
        lost.pass(1);
        known.pass(1);
        Check.due("wear at its word", 2, lost.wear(0, 3, 5));
        Check.due("safe then", 1, lost.safe(0));
        Check.due("weakest then", 0, lost.weakest());
        Check.due("it shuts", known.shut(0), lost.shut(0));
        Stations.standAt(lost, 0, 1295);
        Check.due("it opens at its word", true, lost.open(0));
        Check.due("and stays lost", true, lost.lose(0, true));
    }

    private static void lostInAllCalls() {
        Doc.says("Terms", "and its word is known (at first) or lost (a lost one works as a known one).");
        LetterLocks lost = Stations.mixed();
        LetterLocks known = Stations.mixed();
        for (int lock = 0; lock < 8; lock++) {
            lost.lose(lock, true);
            known.lose(lock, false);
        }
        Check.due("all that is told but of the words", toldButWords(known), toldButWords(lost));
        Check.due("turning to the words, and opening", openedAtWords(known), openedAtWords(lost));
        Check.due("locks that racks shut", known.pass(20), lost.pass(20));
        Check.due("what is told behind it", toldButWords(known), toldButWords(lost));
        Check.due("putting, shutting and the words before", renamed(known), renamed(lost));
        Check.due("what is told then", toldButWords(known), toldButWords(lost));
    }

    private static String toldButWords(LetterLocks x) {
        StringBuilder all = new StringBuilder();
        for (int lock = 0; lock < 8; lock++) {
            for (int what : new int[] {0, 1, 2, 4}) {
                all.append(x.told(lock, what)).append(' ');
            }
            all.append(x.trial(lock, 777)).append(' ').append(x.safe(lock)).append(' ');
            all.append(x.until(lock)).append(' ').append(x.foresee(30, lock)).append("; ");
        }
        for (int what : new int[] {0, 1, 2, 4, 5, 6}) {
            all.append(x.count(what)).append(' ');
        }
        for (int rack = 0; rack < 3; rack++) {
            all.append(x.rack(rack, 1)).append(' ').append(x.rack(rack, 3)).append(' ');
        }
        return all.append(x.weakest()).append(' ').append(x.mean()).toString();
    }

    private static String openedAtWords(LetterLocks x) {
        StringBuilder all = new StringBuilder();
        for (int lock = 0; lock < 8; lock++) {
            Stations.standAt(x, lock, 185 * lock);
            all.append(x.open(lock)).append(' ');
        }
        return all.append(x.count(5)).toString();
    }

    private static String renamed(LetterLocks x) {
        StringBuilder all = new StringBuilder();
        for (int i = 0; i < 8; i++) {
            int lock = i;
            all.append(Check.thrownBy(() -> x.put(lock, lock % 4 - 1))).append(' ');
            all.append(Check.thrownBy(() -> x.shut(lock))).append(' ');
            Stations.standAt(x, lock, 185 * lock);
            all.append(x.open(lock)).append(' ').append(x.rename(lock, 1295 - lock)).append(' ');
            all.append(x.told(lock, 3)).append(' ').append(x.told(lock, 5)).append("; ");
        }
        return all.toString();
    }

    private static void turnsEitherWay() {
        Doc.says("Terms",
            "Turning a ring to a letter takes as many turns as the letters are apart, either way round (from 0 to 5 is 1).");
        String[] apart = {"012321", "101232", "210123", "321012", "232101", "123210"};
        for (int ring = 0; ring < 4; ring++) {
            LetterLocks x = Stations.open(1);
            for (int from = 0; from < 6; from++) {
                for (int to = 0; to < 6; to++) {
                    x.turn(0, ring, from);
                    Check.due("ring " + ring + " from " + from + " to " + to, apart[from].charAt(to) - '0',
                        x.turn(0, ring, to));
                }
            }
        }
    }

    private static void openStandsAnywhere() {
        Doc.says("Terms", "An open lock stands at any letters;");
        LetterLocks x = Stations.with(0);
        Stations.standAt(x, 0, 1295);
        Check.due("where it stands", 1295, x.told(0, 0));
        Check.due("open there", 1, x.told(0, 1));
    }

    private static void mixing() {
        Doc.says("Terms", "shutting it mixes the rings: ring r is turned on by r + 1 letters from where it stands.");
        String[] behind = {"123450", "234501", "345012", "450123"};
        for (int letter = 0; letter < 6; letter++) {
            int all = 0;
            for (int ring = 0; ring < 4; ring++) {
                all = all * 6 + behind[ring].charAt(letter) - '0';
            }
            LetterLocks x = Stations.open(1);
            Stations.standAt(x, 0, 259 * letter);
            Check.due("from " + letter, all, x.shut(0));
            Check.due("stands there", all, x.told(0, 0));
        }
    }

    private static void opensAtItsWord() {
        Doc.says("Terms", "A lock opens, if its rings stand at its word; it stays open then, till it is shut.");
        int word = 2 * 216 + 3 * 36 + 4 * 6 + 1;
        Edge.answers("at its word", true, () -> Stations.shutAt(word, word), x -> x.open(0));
        for (int worth : new int[] {216, 36, 6, 1}) {
            Edge.answers(worth + " below its word", false, () -> Stations.shutAt(word, word - worth), x -> x.open(0));
            Edge.answers(worth + " above its word", false, () -> Stations.shutAt(word, word + worth), x -> x.open(0));
        }
        LetterLocks x = Edge.answers("at its word again", true, () -> Stations.shutAt(word, word), y -> y.open(0));
        Stations.standAt(x, 0, 0);
        Check.due("open away from its word", 1, x.told(0, 1));
        x.shut(0);
        Check.due("till it is shut", 0, x.told(0, 1));
    }

    private static void racksAtFirst() {
        Doc.says("Terms", "Racks. There are 3, 0 to 2; each has 1 to 6 places (4, at first), and hours in which it is open:");
        int[] first = {4, 0, 1, 0, 0, 24};
        for (int rack = 0; rack < 3; rack++) {
            for (int what = 0; what < 6; what++) {
                int asked = what;
                int of = rack;
                Edge.answers("rack " + rack + " " + what + " at first", first[what], LetterLocks::new, x -> x.rack(of, asked));
            }
        }
    }

    /** The rack is open in just these hours of the day, on three days. */
    private static void openJustIn(int from, int to, String hours) {
        for (int rack = 0; rack < 3; rack++) {
            LetterLocks x = new LetterLocks();
            x.setHours(rack, from, to);
            for (int hour = 0; hour < 72; hour++) {
                Check.due("rack " + rack + " from " + from + " to " + to + " in hour " + hour,
                    hours.charAt(hour % 24) - '0', x.rack(rack, 2));
                x.pass(1);
            }
        }
    }

    private static void openFromUpTo() {
        Doc.says("Terms", "from an hour of the day on up to ahead of another one (0 and 24, at first);");
        openJustIn(0, 24, "111111111111111111111111");
        openJustIn(8, 20, "000000001111111111110000");
        openJustIn(0, 1, "100000000000000000000000");
        openJustIn(0, 23, "111111111111111111111110");
        openJustIn(1, 24, "011111111111111111111111");
        openJustIn(23, 24, "000000000000000000000001");
    }

    private static void openOverMidnight() {
        Doc.says("Terms", "if the first one is greater, from it on or ahead of the other one;");
        openJustIn(22, 6, "111111000000000000000011");
        openJustIn(23, 0, "000000000000000000000001");
        openJustIn(1, 0, "011111111111111111111111");
        openJustIn(23, 22, "111111111111111111111101");
        openJustIn(13, 12, "111111111111011111111111");
    }

    private static void neverOpen() {
        Doc.says("Terms", "if both are the same, never.");
        for (int hour = 0; hour < 24; hour++) {
            openJustIn(hour, hour, "000000000000000000000000");
        }
    }

    private static void takesAPlace() {
        Doc.says("Terms", "Each lock in a rack takes a place.");
        LetterLocks x = Stations.inRack(4, 2, 3);
        x.shut(0);
        x.lose(1, true);
        Check.due("a shut and a lost one", 2, x.rack(0, 1));
        x.put(2, 0);
        Check.due("the third one", 3, x.rack(0, 1));
        Check.due("a fourth one", "IllegalStateException", Check.thrownBy(() -> x.put(3, 0)));
    }

    private static void leastOfMostWorn() {
        Doc.says("Terms", "What shows. The letter of a ring that shows is that with the most wear, of several the least one.");
        LetterLocks x = Stations.shutAt(0, 1295);
        Check.due("of all, unworn, the least", 0, x.told(0, 4));
        x.pass(1);
        Check.due("the most worn, the last of all", 1295, x.told(0, 4));
        Stations.standAt(x, 0, 4 * 216 + 3 * 36 + 2 * 6 + 1);
        x.pass(1);
        Check.due("of two the least", 4 * 216 + 3 * 36 + 2 * 6 + 1, x.told(0, 4));
        Stations.standAt(x, 0, 1295);
        x.pass(1);
        Check.due("the one that is worn one more", 1295, x.told(0, 4));
    }

    private static void orderOfLetters() {
        Doc.says("Terms", "A thief tries words. For each ring letters stand in the order of their wear, "
            + "the most worn one first, of as much worn ones the least one first.");
        LetterLocks x = Stations.shutAt(0, 3);
        x.pass(2);
        x.turn(0, 3, 5);
        x.pass(2);
        x.turn(0, 3, 1);
        x.pass(1);
        x.turn(0, 3, 4);
        x.pass(3);
        int[] trials = {1 + 4 + 10 + 20 + 1, 1 + 4 + 10 + 1, 1 + 4 + 10 + 20 + 35 + 1, 2, 1, 1 + 4 + 1};
        for (int letter = 0; letter < 6; letter++) {
            Check.due("in the last ring's order 4 3 5 1 0 2, of " + letter + " the trial", trials[letter],
                x.trial(0, letter));
        }
    }

    private static void orderOfWords() {
        Doc.says("Terms", "The words are tried by the sum of the places that their letters have in these orders (each from 0), "
            + "the least sum first, of the same sum by the word, the least one first.");
        int[] first = {0, 1, 6, 36, 216, 2, 7, 12, 37, 42, 72, 217, 222, 252, 432, 3};
        for (int trial = 1; trial <= first.length; trial++) {
            int word = first[trial - 1];
            Edge.answers("the trial of " + word, trial, () -> Stations.open(1), x -> x.trial(0, word));
        }
        int[] last = {1295, 1294, 1289, 1259, 1079, 1293};
        for (int behind = 0; behind < last.length; behind++) {
            int word = last[behind];
            Edge.answers("the trial of " + word, 1296 - behind, () -> Stations.open(1), x -> x.trial(0, word));
        }
    }

    private static void changesNothing() {
        Doc.says("Terms", "A method that throws an exception changes nothing.");
        LetterLocks x = Stations.mixed();
        Edge.Call[] refused = {
            y -> y.lock(1296), y -> y.lock(1), y -> y.turn(8, 0, 1), y -> y.turn(0, 4, 1), y -> y.turn(0, 0, 6),
            y -> y.open(8), y -> y.shut(8), y -> y.shut(1), y -> y.rename(8, 3), y -> y.rename(0, 1296),
            y -> y.rename(3, 3), y -> y.lose(8, true), y -> y.setPlaces(3, 1), y -> y.setPlaces(0, 7),
            y -> y.setPlaces(0, 1), y -> y.setHours(3, 1, 2), y -> y.setHours(0, 24, 2), y -> y.setHours(0, 3, 25),
            y -> y.put(8, 0), y -> y.put(0, 3), y -> y.put(1, -1), y -> y.put(4, 0), y -> y.put(4, 1),
            y -> y.told(0, 6), y -> y.wear(0, 4, 0), y -> y.rack(0, 6), y -> y.count(7), y -> y.apart(0, 1296),
            y -> y.trial(0, 1296), y -> y.safe(8), y -> y.pass(100), y -> y.foresee(100, 0), y -> y.foresee(1, 8),
            y -> y.until(8),
        };
        for (int i = 0; i < refused.length; i++) {
            Edge.Call call = refused[i];
            Check.due("refused call " + i + " is", true, Check.thrownBy(() -> call.on(x)).endsWith("Exception"));
        }
        Check.due("behind all of them what is asked later", Edge.later(Stations.mixed()), Edge.later(x));
    }

    private static void firstNamedLocks() {
        Doc.says("Terms", "If several exceptions apply, the one that is named first is thrown.");
        Edge.Made x = Stations::mixed;
        Edge.refused("Promise 2: no word, and 8 locks: lock", Check.ARGUMENT, x, y -> y.lock(1296));
        Edge.refused("Promise 2: word -1, and 8 locks: lock", Check.ARGUMENT, x, y -> y.lock(-1));
        Edge.refused("Promise 3: no lock, no letter: turn", Check.INDEX, x, y -> y.turn(8, 0, 6));
        Edge.refused("Promise 3: no ring, no letter: turn", Check.INDEX, x, y -> y.turn(0, 4, -1));
        Edge.refused("Promise 3: ring -1, no letter: turn", Check.INDEX, x, y -> y.turn(0, -1, 6));
        Edge.refused("Promise 6: no lock, no word: rename", Check.INDEX, x, y -> y.rename(8, 1296));
        Edge.refused("Promise 6: lock -1, word -1: rename", Check.INDEX, x, y -> y.rename(-1, -1));
        Edge.refused("Promise 6: no word, and shut: rename", Check.ARGUMENT, x, y -> y.rename(1, 1296));
        Edge.refused("Promise 6: word -1, and shut: rename", Check.ARGUMENT, x, y -> y.rename(1, -1));
        Edge.refused("Promise 16: no lock, no word: trial", Check.INDEX, x, y -> y.trial(8, 1296));
        Edge.refused("Promise 16: lock -1, word -1: trial", Check.INDEX, x, y -> y.trial(-1, -1));
    }

    private static void firstNamedRacksAndHours() {
        Doc.says("Terms", "If several exceptions apply, the one that is named first is thrown.");
        Edge.Made x = Stations::mixed;
        Edge.refused("Promise 8: no rack, no places: setPlaces", Check.INDEX, x, y -> y.setPlaces(3, 0));
        Edge.refused("Promise 8: rack -1, 7 places: setPlaces", Check.INDEX, x, y -> y.setPlaces(-1, 7));
        Edge.refused("Promise 8: no places, more locks in it: setPlaces", Check.ARGUMENT, x, y -> y.setPlaces(0, 0));
        Edge.refused("Promise 9: no rack, from 24: setHours", Check.INDEX, x, y -> y.setHours(3, 24, 0));
        Edge.refused("Promise 9: rack -1, to 25: setHours", Check.INDEX, x, y -> y.setHours(-1, 0, 25));
        Edge.refused("Promise 10: no rack, and shut: put", Check.INDEX, x, y -> y.put(1, 3));
        Edge.refused("Promise 10: rack -2, and shut: put", Check.INDEX, x, y -> y.put(5, -2));
        Edge.refused("Promise 10: no lock, a full rack: put", Check.INDEX, x, y -> y.put(8, 0));
        Edge.refused("Promise 10: no lock, a rack not open: put", Check.INDEX, x, y -> y.put(-1, 1));
        Edge.refused("Promise 19: no hours, no lock: foresee", Check.ARGUMENT, x, y -> y.foresee(0, 8));
        Edge.refused("Promise 19: 100 hours, lock -1: foresee", Check.ARGUMENT, x, y -> y.foresee(100, -1));
    }
}
