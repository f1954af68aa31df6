import java.util.ArrayList;

/** Letter locks for bicycles at a station. */
public final class LetterLocks {
    private static final int MOST_LOCKS = 8;
    private static final int RINGS = 4;
    private static final int LETTERS = 6;
    private static final int WORDS = 1296;
    private static final int MOST_WEAR = 99;
    private static final int WEAR_SHUT = 1;
    private static final int WEAR_OPEN = 2;

    private static final int RACKS = 3;
    private static final int NO_RACK = -1;
    private static final int FIRST_PLACES = 4;
    private static final int MOST_PLACES = 6;

    private static final int DAY = 24;
    private static final int MOST_HOURS = 99;
    private static final int UNTIL_HOURS = 48;

    private static final int TOLD_OF_LOCK = 6;
    private static final int TOLD_OF_RACK = 6;
    private static final int COUNTS = 7;
    private static final long DIGEST_START = 1471L;
    private static final long DIGEST_FACTOR = 31L;

    private final ArrayList<Lock> locks;
    private final Rack[] racks;
    private final Thief thief;
    private final Lock foreseen;
    private int hour;
    private int turns;

    public LetterLocks() {
        locks = new ArrayList<>();
        racks = new Rack[RACKS];
        for (int i = 0; i < racks.length; i++) {
            racks[i] = new Rack();
        }
        thief = new Thief();
        foreseen = new Lock(0);
        hour = 0;
        turns = 0;
    }

    // ---- locks

    public int lock(int word) throws IllegalArgumentException, IllegalStateException {
        requireWord(word);
        if (locks.size() >= MOST_LOCKS) {
            throw new IllegalStateException("there are 8 locks");
        }
        locks.add(new Lock(word));
        return locks.size() - 1;
    }

    public int turn(int lock, int ring, int letter) throws IndexOutOfBoundsException, IllegalArgumentException {
        Lock turned = lockAt(lock);
        requireRing(ring);
        if (!isLetter(letter)) {
            throw new IllegalArgumentException("no such letter");
        }
        int taken = turnsBetween(turned.letterAt(ring), letter);
        turned.turnTo(ring, letter);
        turns += taken;
        return taken;
    }

    public boolean open(int lock) throws IndexOutOfBoundsException {
        Lock opened = lockAt(lock);
        if (opened.standing() == opened.word) {
            opened.isOpen = true;
        }
        return opened.isOpen;
    }

    public int shut(int lock) throws IndexOutOfBoundsException, IllegalStateException {
        Lock closed = lockAt(lock);
        requireOpen(closed);
        closed.close();
        return closed.standing();
    }

    public int rename(int lock, int word) throws IndexOutOfBoundsException, IllegalArgumentException, IllegalStateException {
        Lock renamed = lockAt(lock);
        requireWord(word);
        requireOpen(renamed);
        int before = renamed.word;
        renamed.word = word;
        renamed.isLost = false;
        return before;
    }

    public boolean lose(int lock, boolean lost) throws IndexOutOfBoundsException {
        Lock lostOrFound = lockAt(lock);
        boolean before = lostOrFound.isLost;
        lostOrFound.isLost = lost;
        return before;
    }

    // ---- racks

    public int setPlaces(int rack, int places) throws IndexOutOfBoundsException, IllegalArgumentException, IllegalStateException {
        Rack changed = rackAt(rack);
        if (places < 1 || places > MOST_PLACES) {
            throw new IllegalArgumentException("places are 1 to 6");
        }
        if (locksIn(rack) > places) {
            throw new IllegalStateException("more locks are in the rack");
        }
        int before = changed.places;
        changed.places = places;
        return before;
    }

    public int setHours(int rack, int from, int to) throws IndexOutOfBoundsException, IllegalArgumentException {
        Rack changed = rackAt(rack);
        if (from < 0 || from >= DAY || to < 0 || to > DAY) {
            throw new IllegalArgumentException("hours are 0 to 23 and 0 to 24");
        }
        int before = (DAY + 1) * changed.from + changed.to;
        changed.from = from;
        changed.to = to;
        return before;
    }

    public int put(int lock, int rack) throws IndexOutOfBoundsException, IllegalStateException {
        Lock moved = lockAt(lock);
        if (rack != NO_RACK && !isRack(rack)) {
            throw new IndexOutOfBoundsException("no such rack");
        }
        int before = moved.inRack;
        if (rack == before) {
            return before;
        }
        requireOpen(moved);
        if (rack != NO_RACK && !takesAnother(rack)) {
            throw new IllegalStateException("the rack is not open, or full");
        }
        moved.inRack = rack;
        return before;
    }

    // ---- what there is

    public int told(int lock, int what) throws IndexOutOfBoundsException {
        Lock it = lockAt(lock);
        switch (what) {
            case 0: return it.standing();
            case 1: return it.isOpen ? 1 : 0;
            case 2: return it.inRack;
            case 3: return it.isLost ? 1 : 0;
            case 4: return it.showing();
            case 5: return it.isLost ? -1 : it.word;
            default: throw new IndexOutOfBoundsException("what is 0 to 5");
        }
    }

    public int wear(int lock, int ring, int letter) throws IndexOutOfBoundsException {
        Lock worn = lockAt(lock);
        requireRing(ring);
        if (!isLetter(letter)) {
            throw new IndexOutOfBoundsException("no such letter");
        }
        return worn.wearAt(ring, letter);
    }

    public int rack(int rack, int what) throws IndexOutOfBoundsException {
        Rack it = rackAt(rack);
        switch (what) {
            case 0: return it.places;
            case 1: return locksIn(rack);
            case 2: return it.isOpenIn(hour) ? 1 : 0;
            case 3: return openLocksIn(rack);
            case 4: return it.from;
            case 5: return it.to;
            default: throw new IndexOutOfBoundsException("what is 0 to 5");
        }
    }

    public int count(int what) throws IndexOutOfBoundsException {
        switch (what) {
            case 0: return hour;
            case 1: return locks.size();
            case 2: return openLocks();
            case 3: return lostWords();
            case 4: return allWear();
            case 5: return turns;
            case 6: return locksInRacks();
            default: throw new IndexOutOfBoundsException("what is 0 to 6");
        }
    }

    // ---- words and trials

    public int apart(int a, int b) throws IllegalArgumentException {
        requireWord(a);
        requireWord(b);
        int taken = 0;
        for (int ring = 0; ring < RINGS; ring++) {
            taken += turnsBetween(letterOf(a, ring), letterOf(b, ring));
        }
        return taken;
    }

    public int trial(int lock, int word) throws IndexOutOfBoundsException, IllegalArgumentException {
        Lock tried = lockAt(lock);
        requireWord(word);
        return thief.trialOf(tried, word);
    }

    public int safe(int lock) throws IndexOutOfBoundsException {
        Lock tried = lockAt(lock);
        return thief.trialOf(tried, tried.word);
    }

    // ---- hours and what would be

    public int pass(int hours) throws IllegalArgumentException {
        requireHours(hours);
        int shutByRacks = 0;
        for (int passed = 0; passed < hours; passed++) {
            for (int i = 0; i < locks.size(); i++) {
                if (letHourGoBy(locks.get(i), hour)) {
                    shutByRacks++;
                }
            }
            hour++;
        }
        return shutByRacks;
    }

    public int foresee(int hours, int lock) throws IllegalArgumentException, IndexOutOfBoundsException {
        requireHours(hours);
        foreseen.become(lockAt(lock));
        for (int passed = 0; passed < hours; passed++) {
            letHourGoBy(foreseen, hour + passed);
        }
        return thief.trialOf(foreseen, foreseen.word);
    }

    public int until(int lock) throws IndexOutOfBoundsException {
        Lock awaited = lockAt(lock);
        if (!awaited.isOpen) {
            return 0;
        }
        for (int hours = 1; hours <= UNTIL_HOURS; hours++) {
            if (isInClosedRack(awaited, hour + hours - 1)) {
                return hours;
            }
        }
        return -1;
    }

    public int weakest() {
        int found = -1;
        int fewest = WORDS + 1;
        for (int i = 0; i < locks.size(); i++) {
            int trials = safe(i);
            if (trials < fewest) {
                fewest = trials;
                found = i;
            }
        }
        return found;
    }

    public double mean() {
        int letters = locks.size() * RINGS * LETTERS;
        if (letters == 0) {
            return 0.0;
        }
        return (double) allWear() / (double) letters;
    }

    public long digest() {
        long d = DIGEST_START;
        for (int what = 0; what < COUNTS; what++) {
            d = d * DIGEST_FACTOR + count(what);
        }
        for (int i = 0; i < RACKS; i++) {
            for (int what = 0; what < TOLD_OF_RACK; what++) {
                d = d * DIGEST_FACTOR + rack(i, what);
            }
        }
        for (int i = 0; i < locks.size(); i++) {
            d = digestOfLock(d, i);
        }
        return d;
    }

    private long digestOfLock(long start, int lock) {
        long d = start;
        for (int what = 0; what < TOLD_OF_LOCK; what++) {
            d = d * DIGEST_FACTOR + told(lock, what);
        }
        for (int ring = 0; ring < RINGS; ring++) {
            for (int letter = 0; letter < LETTERS; letter++) {
                d = d * DIGEST_FACTOR + wear(lock, ring, letter);
            }
        }
        return d;
    }

    // ---- what calls require

    private Lock lockAt(int number) {
        if (number < 0 || number >= locks.size()) {
            throw new IndexOutOfBoundsException("no such lock");
        }
        return locks.get(number);
    }

    private Rack rackAt(int number) {
        if (!isRack(number)) {
            throw new IndexOutOfBoundsException("no such rack");
        }
        return racks[number];
    }

    private static void requireRing(int ring) {
        if (!isRing(ring)) {
            throw new IndexOutOfBoundsException("no such ring");
        }
    }

    private static void requireWord(int word) {
        if (word < 0 || word >= WORDS) {
            throw new IllegalArgumentException("no such word");
        }
    }

    private static void requireHours(int hours) {
        if (hours < 1 || hours > MOST_HOURS) {
            throw new IllegalArgumentException("hours are 1 to 99");
        }
    }

    private static void requireOpen(Lock lock) {
        if (!lock.isOpen) {
            throw new IllegalStateException("the lock is shut");
        }
    }

    private boolean isRack(int number) {
        return number >= 0 && number < racks.length;
    }

    private static boolean isRing(int ring) {
        return ring >= 0 && ring < RINGS;
    }

    private static boolean isLetter(int letter) {
        return letter >= 0 && letter < LETTERS;
    }

    // ---- words and turns

    private static int letterOf(int word, int ring) {
        int ahead = word;
        for (int last = RINGS - 1; last > ring; last--) {
            ahead /= LETTERS;
        }
        return ahead % LETTERS;
    }

    private static int turnsBetween(int a, int b) {
        int oneWay = Math.abs(a - b);
        return Math.min(oneWay, LETTERS - oneWay);
    }

    // ---- locks in racks, and hours

    private int locksIn(int rack) {
        int found = 0;
        for (int i = 0; i < locks.size(); i++) {
            if (locks.get(i).inRack == rack) {
                found++;
            }
        }
        return found;
    }

    private int openLocksIn(int rack) {
        int found = 0;
        for (int i = 0; i < locks.size(); i++) {
            Lock lock = locks.get(i);
            if (lock.isOpen && lock.inRack == rack) {
                found++;
            }
        }
        return found;
    }

    private boolean takesAnother(int rack) {
        return isRack(rack) && racks[rack].isOpenIn(hour) && locksIn(rack) < racks[rack].places;
    }

    private boolean isInClosedRack(Lock lock, int inHour) {
        return isRack(lock.inRack) && !racks[lock.inRack].isOpenIn(inHour);
    }

    // Answers whether a rack shuts the lock. No lock's hour depends on another lock's: so each may go through it alone.
    private boolean letHourGoBy(Lock lock, int inHour) {
        lock.wearByAnHour();
        if (!lock.isOpen || !isInClosedRack(lock, inHour)) {
            return false;
        }
        lock.close();
        return true;
    }

    // ---- counts of all locks

    private int openLocks() {
        int found = 0;
        for (int i = 0; i < locks.size(); i++) {
            if (locks.get(i).isOpen) {
                found++;
            }
        }
        return found;
    }

    private int lostWords() {
        int found = 0;
        for (int i = 0; i < locks.size(); i++) {
            if (locks.get(i).isLost) {
                found++;
            }
        }
        return found;
    }

    private int allWear() {
        int sum = 0;
        for (int i = 0; i < locks.size(); i++) {
            sum += locks.get(i).allWears();
        }
        return sum;
    }

    private int locksInRacks() {
        return locks.size() - locksIn(NO_RACK);
    }

    /** One lock: its rings, their wear, its word and where it is. */
    private static final class Lock {
        private final int[] letters = new int[RINGS];
        private final int[] wears = new int[RINGS * LETTERS];
        private int word;
        private int inRack = NO_RACK;
        private boolean isOpen = true;
        private boolean isLost = false;

        Lock(int word) {
            this.word = word;
        }

        void become(Lock other) {
            System.arraycopy(other.letters, 0, letters, 0, RINGS);
            System.arraycopy(other.wears, 0, wears, 0, RINGS * LETTERS);
            word = other.word;
            inRack = other.inRack;
            isOpen = other.isOpen;
            isLost = other.isLost;
        }

        int letterAt(int ring) {
            return isRing(ring) ? letters[ring] : 0;
        }

        void turnTo(int ring, int letter) {
            if (isRing(ring)) {
                letters[ring] = letter;
            }
        }

        int standing() {
            int stands = 0;
            for (int ring = 0; ring < RINGS; ring++) {
                stands = stands * LETTERS + letters[ring];
            }
            return stands;
        }

        void close() {
            for (int ring = 0; ring < RINGS; ring++) {
                letters[ring] = (letters[ring] + ring + 1) % LETTERS;
            }
            isOpen = false;
        }

        int wearAt(int ring, int letter) {
            return isRing(ring) && isLetter(letter) ? wears[ring * LETTERS + letter] : 0;
        }

        void wearByAnHour() {
            for (int ring = 0; ring < RINGS; ring++) {
                if (!isOpen) {
                    wearMore(ring, letters[ring], WEAR_SHUT);
                } else if (inRack != NO_RACK) {
                    wearMore(ring, letterOf(word, ring), WEAR_OPEN);
                }
            }
        }

        private void wearMore(int ring, int letter, int by) {
            if (isRing(ring) && isLetter(letter)) {
                int slot = ring * LETTERS + letter;
                wears[slot] = Math.min(MOST_WEAR, wears[slot] + by);
            }
        }

        int allWears() {
            int sum = 0;
            for (int slot = 0; slot < wears.length; slot++) {
                sum += wears[slot];
            }
            return sum;
        }

        int showing() {
            int shows = 0;
            for (int ring = 0; ring < RINGS; ring++) {
                shows = shows * LETTERS + mostWorn(ring);
            }
            return shows;
        }

        private int mostWorn(int ring) {
            int most = 0;
            for (int letter = 1; letter < LETTERS; letter++) {
                if (wearAt(ring, letter) > wearAt(ring, most)) {
                    most = letter;
                }
            }
            return most;
        }

        // From 0: the letters that are worn more, and the lesser ones of those worn as much, stand ahead.
        int placeInOrder(int ring, int letter) {
            int ahead = 0;
            int worn = wearAt(ring, letter);
            for (int other = 0; other < LETTERS; other++) {
                int otherWorn = wearAt(ring, other);
                if (otherWorn > worn || otherWorn == worn && other < letter) {
                    ahead++;
                }
            }
            return ahead;
        }
    }

    /** One rack: its places and the hours of the day in which it is open. */
    private static final class Rack {
        private int places = FIRST_PLACES;
        private int from = 0;
        private int to = DAY;

        boolean isOpenIn(int inHour) {
            int ofDay = inHour % DAY;
            if (from <= to) {
                return ofDay >= from && ofDay < to;
            }
            return ofDay >= from || ofDay < to;
        }
    }

    /**
     * A thief, who tries words by the wear that shows.
     *
     * Each ring's order holds each of the places 0 to 5 once. So how many words have a sum of places is
     * the same for any wear, and the words ahead of one are counted without going through all of them.
     */
    private static final class Thief {
        private static final int MOST_SUM = RINGS * (LETTERS - 1);

        private final int[][] wordsOfRingsAndSum = new int[RINGS + 1][MOST_SUM + 1];

        Thief() {
            wordsOfRingsAndSum[0][0] = 1;
            for (int rings = 1; rings <= RINGS; rings++) {
                for (int sum = 0; sum <= MOST_SUM; sum++) {
                    for (int place = 0; place < LETTERS && place <= sum; place++) {
                        wordsOfRingsAndSum[rings][sum] += wordsOfRingsAndSum[rings - 1][sum - place];
                    }
                }
            }
        }

        int trialOf(Lock lock, int word) {
            int sum = sumOfPlaces(lock, word);
            int ahead = 0;
            for (int less = 0; less < sum; less++) {
                ahead += wordsWith(RINGS, less);
            }
            return ahead + lesserWordsOfSum(lock, word, sum) + 1;
        }

        private static int sumOfPlaces(Lock lock, int word) {
            int sum = 0;
            for (int ring = 0; ring < RINGS; ring++) {
                sum += lock.placeInOrder(ring, letterOf(word, ring));
            }
            return sum;
        }

        // A lesser word has the same letters up to some ring and a lesser one there; the rings behind make up the sum.
        private int lesserWordsOfSum(Lock lock, int word, int sum) {
            int lesser = 0;
            int rest = sum;
            for (int ring = 0; ring < RINGS; ring++) {
                int letter = letterOf(word, ring);
                int ringsBehind = RINGS - 1 - ring;
                for (int other = 0; other < letter; other++) {
                    lesser += wordsWith(ringsBehind, rest - lock.placeInOrder(ring, other));
                }
                rest -= lock.placeInOrder(ring, letter);
            }
            return lesser;
        }

        private int wordsWith(int rings, int sum) {
            if (rings < 0 || rings > RINGS || sum < 0 || sum > MOST_SUM) {
                return 0;
            }
            return wordsOfRingsAndSum[rings][sum];
        }
    }
}
