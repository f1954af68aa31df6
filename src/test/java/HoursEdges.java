import java.math.BigInteger;

/** Promises 18 to 23. */
final class HoursEdges {
    private HoursEdges() {
    }

    static void run() {
        passHours();
        passGoBy();
        passHowMany();
        passShutsInThem();
        foreseeAsPassed();
        foreseeAtMost();
        foreseeHours();
        foreseeWhich();
        untilAsPassed();
        untilNow();
        untilAtMost();
        untilNotByThen();
        untilWhich();
        weakestFewest();
        weakestOfSeveral();
        meanWithoutLocks();
        meanOfAll();
        digestStarts();
        digestWraps();
    }

    /** All locks, shut, each ring worn as much as can be at each letter. */
    static LetterLocks wornOut() {
        LetterLocks x = Stations.open(8);
        for (int lock = 0; lock < 8; lock++) {
            x.shut(lock);
        }
        for (int letter = 0; letter < 6; letter++) {
            for (int lock = 0; lock < 8; lock++) {
                Stations.standAt(x, lock, 259 * letter);
            }
            x.pass(99);
        }
        return x;
    }

    /** All locks in racks that are open in hour 0 alone, three in the first, three in the second, two in the last. */
    private static LetterLocks openInHourZero() {
        LetterLocks x = Stations.open(8);
        for (int lock = 0; lock < 8; lock++) {
            x.put(lock, lock / 3);
        }
        for (int rack = 0; rack < 3; rack++) {
            x.setHours(rack, 0, 1);
        }
        return x;
    }

    private static void passHours() {
        Doc.says(18, "Throws `IllegalArgumentException` if hours is not 1 to 99");
        Edge.range(Check.ARGUMENT, 1, 99, LetterLocks::new, (x, hours) -> x.pass(hours));
        Edge.range(Check.ARGUMENT, 1, 99, Stations::mixed, (x, hours) -> x.pass(hours));
        Edge.range(Check.ARGUMENT, 1, 99, HoursEdges::openInHourZero, (x, hours) -> x.pass(hours));
        LetterLocks x = new LetterLocks();
        x.pass(1);
        Check.due("behind the least", 1, x.count(0));
        x.pass(99);
        Check.due("behind the largest", 100, x.count(0));
    }

    private static void passGoBy() {
        Doc.says(18, "Lets hours go by.");
        for (int hours = 1; hours <= 99; hours++) {
            LetterLocks atOnce = openUpTo(8 + hours % 17);
            LetterLocks oneByOne = openUpTo(8 + hours % 17);
            int shut = 0;
            for (int passed = 0; passed < hours; passed++) {
                shut += oneByOne.pass(1);
            }
            Check.due("locks shut in " + hours + " hours", shut, atOnce.pass(hours));
            Check.due("the hour behind " + hours, 7 + hours, atOnce.count(0));
            Check.due("what is told behind " + hours, Stations.told(oneByOne), Stations.told(atOnce));
        }
    }

    /** Of all kinds, one more of them in rack 2, which is open up to ahead of this hour of the day. */
    private static LetterLocks openUpTo(int hour) {
        LetterLocks x = Stations.mixed();
        x.put(7, 2);
        x.setHours(2, 0, hour);
        return x;
    }

    private static void passHowMany() {
        Doc.says(18, "Returns how many locks are shut by racks in them.");
        Edge.answers("without locks", 0, LetterLocks::new, x -> x.pass(99));
        Edge.answers("in no rack", 0, () -> Stations.open(8), x -> x.pass(99));
        LetterLocks x = Edge.answers("all locks", 8, HoursEdges::openInHourZero, y -> y.pass(99));
        Check.due("all are shut", 0, x.count(2));
        Check.due("none a second time", 0, x.pass(99));
        LetterLocks some = openInHourZero();
        some.shut(0);
        some.shut(7);
        some.setHours(1, 0, 24);
        Check.due("but for shut ones, and for those in an open rack", 3, some.pass(99));
        LetterLocks again = Stations.with(0);
        again.put(0, 0);
        again.setHours(0, 5, 5);
        Check.due("one", 1, again.pass(1));
        Stations.standAt(again, 0, 0);
        again.open(0);
        Check.due("one, opened again", 1, again.pass(1));
    }

    private static void passShutsInThem() {
        Doc.says(18, "shut by racks in them.");
        LetterLocks x = openInHourZero();
        Check.due("in the open hour", 0, x.pass(1));
        Check.due("in the first hour that is not open", 8, x.pass(1));
        Edge.answers("in the last one of the hours", 8, HoursEdges::openInHourZero, y -> y.pass(2));
        LetterLocks late = Stations.open(1);
        late.put(0, 2);
        late.pass(1);
        late.setHours(2, 1, 0);
        Check.due("in hours 1 to 23", 0, late.pass(23));
        Check.due("in hour 24, over midnight", 1, late.pass(1));
    }

    private static void foreseeAsPassed() {
        Doc.says(19, "Returns in how many trials a thief would find its word behind so many hours, "
            + "if nothing is done (nothing is changed).");
        Edge.onlyTells("worn at its word, behind the least hours", 1, HoursEdges::openInHourZero, x -> x.foresee(1, 7));
        Edge.onlyTells("shut, behind the least hours", 36, () -> Stations.shutAt(0, 1295), x -> x.foresee(1, 0));
        Edge.onlyTells("shut, behind the largest hours", 36, () -> Stations.shutAt(0, 1295), x -> x.foresee(99, 0));
        Edge.onlyTells("open in none, behind the largest hours", 1296, () -> Stations.open(8), x -> x.foresee(99, 7));
        Edge.onlyTells("as much worn at its word and elsewhere", 1, HoursEdges::openInHourZero, x -> x.foresee(6, 0));
        Edge.onlyTells("more worn elsewhere", 36, HoursEdges::openInHourZero, x -> x.foresee(7, 0));
        for (int i = 0; i < 8; i++) {
            int lock = i;
            for (int hours : new int[] {1, 15, 16, 40, 99}) {
                LetterLocks passed = Stations.mixed();
                passed.pass(hours);
                Edge.onlyTells("behind " + hours + " hours, of " + lock, passed.safe(lock), Stations::mixed,
                    x -> x.foresee(hours, lock));
            }
        }
    }

    private static void foreseeAtMost() {
        Doc.says(19, "behind so many hours");
        Edge.Made made = () -> {
            LetterLocks x = Stations.shutAt(259, 259);
            x.pass(99);
            Stations.standAt(x, 0, 0);
            x.pass(98);
            return x;
        };
        Edge.onlyTells("wear 98 and 1 more, as much as its word's 99: 1111 in the order 0 1 2 3 4 5", 56, made, x -> x.foresee(1, 0));
        Edge.answers("wear 98 now", 1, made, x -> x.safe(0));
        Edge.onlyTells("wear at most 99", 1, () -> {
            LetterLocks x = Stations.shutAt(0, 0);
            x.pass(99);
            Stations.standAt(x, 0, 259);
            x.pass(99);
            return x;
        }, x -> x.foresee(99, 0));
    }

    private static void foreseeHours() {
        Doc.says(19, "`hours`: how many, 1 to 99");
        Doc.says(19, "Throws `IllegalArgumentException` if hours is not 1 to 99");
        Edge.range(Check.ARGUMENT, 1, 99, Stations::mixed, (x, hours) -> x.foresee(hours, 0));
        Edge.range(Check.ARGUMENT, 1, 99, Stations::mixed, (x, hours) -> x.foresee(hours, 7));
    }

    private static void foreseeWhich() {
        Doc.says(19, "Throws `IndexOutOfBoundsException` if there is no such lock");
        Edge.lockNumbers((x, lock) -> x.foresee(1, lock));
        Edge.lockNumbers((x, lock) -> x.foresee(99, lock));
    }

    private static LetterLocks inRackAt(int hour, int from, int to) {
        LetterLocks x = Stations.open(8);
        x.put(7, 1);
        for (int passed = 0; passed < hour; passed++) {
            x.pass(1);
        }
        x.setHours(1, from, to);
        return x;
    }

    /** Of a lock in a rack with any hours, in any hour of the day, and looked at hour by hour then. */
    private static void untilAsPassed() {
        Doc.says(20, "Returns behind how many hours it is shut, if nothing is done: 0 if now, at most 48; "
            + "-1 if not by then (nothing is changed).");
        for (int i = 0; i < 24 * 25 * 24; i++) {
            int from = i / 600;
            int to = i / 24 % 25;
            int hour = i % 24;
            LetterLocks x = inRackAt(hour, from, to);
            int told = x.until(7);
            int behind = 0;
            while (behind <= 48 && x.told(7, 1) == 1) {
                x.pass(1);
                behind++;
            }
            Check.due("open from " + from + " to " + to + ", in hour " + hour, behind > 48 ? -1 : behind, told);
            Check.due("not more than a day", true, told <= 24);
        }
    }

    private static void untilNow() {
        Doc.says(20, "Returns behind how many hours it is shut, if nothing is done: 0 if now");
        Edge.onlyTells("shut, in none", 0, () -> Stations.shutAt(0, 0), x -> x.until(0));
        Edge.onlyTells("shut, in a rack not open", 0, Stations::mixed, x -> x.until(2));
        Edge.onlyTells("shut, in an open rack", 0, Stations::mixed, x -> x.until(1));
        for (int i = 0; i < 24; i++) {
            int hour = i;
            Edge.onlyTells("open still, not open in this hour, " + hour, 1, () -> inRackAt(hour, (hour + 1) % 24, hour),
                x -> x.until(7));
            Edge.onlyTells("open still, never open, in hour " + hour, 1, () -> inRackAt(hour, hour, hour),
                x -> x.until(7));
        }
    }

    private static void untilAtMost() {
        Doc.says(20, "at most 48;");
        for (int i = 0; i < 24; i++) {
            int hour = i;
            Edge.onlyTells("not open in the hour ahead of " + hour + ", a day on", 24,
                () -> inRackAt(hour, hour, (hour + 23) % 24), x -> x.until(7));
            Edge.onlyTells("not open in the hour behind " + hour, 2,
                () -> inRackAt(hour, (hour + 2) % 24, (hour + 1) % 24), x -> x.until(7));
        }
        LetterLocks x = inRackAt(0, 0, 23);
        x.pass(23);
        Check.due("behind 23 of 24 hours open", 1, x.told(7, 1));
        Check.due("the last one is left", 1, x.until(7));
        x.pass(1);
        Check.due("behind 24 hours shut", 0, x.told(7, 1));
        Check.due("shut now", 0, x.until(7));
    }

    private static void untilNotByThen() {
        Doc.says(20, "-1 if not by then (nothing is changed).");
        Edge.onlyTells("in none", -1, () -> Stations.open(8), x -> x.until(7));
        Edge.onlyTells("in a rack open in all hours", -1, () -> inRackAt(5, 0, 24), x -> x.until(7));
        Edge.onlyTells("in none, others in racks not open", -1, () -> inRackAt(5, 7, 7), x -> x.until(0));
    }

    private static void untilWhich() {
        Doc.says(20, "Throws `IndexOutOfBoundsException` if there is no such lock");
        Edge.lockNumbers((x, lock) -> x.until(lock));
    }

    private static void weakestFewest() {
        Doc.says(21, "Returns the lock whose word a thief finds in the fewest trials");
        Edge.onlyTells("the only one, found in the last trial", 0, () -> Stations.with(1295), x -> x.weakest());
        Edge.onlyTells("the last of all", 7, () -> Stations.with(8, 7, 6, 5, 4, 3, 2, 0), x -> x.weakest());
        Edge.onlyTells("found in trial 1295", 1, () -> Stations.with(1295, 1294, 1295), x -> x.weakest());
        Edge.onlyTells("by the trial, not by the word", 1, () -> Stations.with(2, 216), x -> x.weakest());
        LetterLocks x = Stations.with(0, 1295);
        Stations.standAt(x, 0, 777);
        x.put(1, 2);
        x.shut(0);
        x.lose(1, true);
        x.pass(1);
        Check.due("the worn one, lost", 1, x.weakest());
    }

    private static void weakestOfSeveral() {
        Doc.says(21, "of several the one with the smallest number; -1 without any.");
        Edge.onlyTells("without any", -1, LetterLocks::new, x -> x.weakest());
        Edge.onlyTells("of all", 0, () -> Stations.with(5, 5, 5, 5, 5, 5, 5, 5), x -> x.weakest());
        Edge.onlyTells("of all, found in the last trial", 0,
            () -> Stations.with(1295, 1295, 1295, 1295, 1295, 1295, 1295, 1295), x -> x.weakest());
        Edge.onlyTells("of the last two", 6, () -> Stations.with(9, 8, 7, 12, 5, 4, 1, 1), x -> x.weakest());
    }

    private static void meanWithoutLocks() {
        Doc.says(22, "0 without locks.");
        Edge.onlyTells("without locks", 0.0, LetterLocks::new, x -> x.mean());
        Edge.onlyTells("without locks, later", 0.0, () -> {
            LetterLocks x = new LetterLocks();
            x.pass(99);
            return x;
        }, x -> x.mean());
    }

    private static void meanOfAll() {
        Doc.says(22, "Returns the mean wear of all letters of all rings;");
        Edge.onlyTells("unworn", 0.0, () -> Stations.open(8), x -> x.mean());
        Edge.answers("the most", 99.0, HoursEdges::wornOut, x -> x.mean());
        LetterLocks x = Stations.with(0);
        x.shut(0);
        x.pass(1);
        Check.due("one hour of one", 4.0 / 24.0, x.mean());
        for (int locks = 2; locks <= 8; locks++) {
            x.lock(0);
            Check.due("one hour of one of " + locks, 4.0 / (24.0 * locks), x.mean());
        }
    }

    /** The same numbers, reckoned without an end to them and cut to 64 bits but once. */
    private static long checksum(int... numbers) {
        BigInteger d = BigInteger.valueOf(1471);
        for (int x : numbers) {
            d = d.multiply(BigInteger.valueOf(31)).add(BigInteger.valueOf(x));
        }
        return d.longValue();
    }

    private static void digestStarts() {
        Doc.says(23, "A number d starts with 1471;");
        Edge.onlyTells("without locks", checksum(
            0, 0, 0, 0, 0, 0, 0,
            4, 0, 1, 0, 0, 24, 4, 0, 1, 0, 0, 24, 4, 0, 1, 0, 0, 24), LetterLocks::new, x -> x.digest());
        Edge.onlyTells("with one lost lock in none", checksum(
            0, 1, 1, 1, 0, 0, 0,
            4, 0, 1, 0, 0, 24, 4, 0, 1, 0, 0, 24, 4, 0, 1, 0, 0, 24,
            0, 1, -1, 1, 0, -1, 0, 0, 0, 0, 0, 0, 0, 0, 0, 0, 0, 0, 0, 0, 0, 0, 0, 0, 0, 0, 0, 0, 0, 0), () -> {
                LetterLocks x = Stations.with(1295);
                x.lose(0, true);
                return x;
            }, x -> x.digest());
    }

    private static void digestWraps() {
        Doc.says(23, "Returns d.");
        Doc.says(23, "Computes a checksum. A number d starts with 1471; for each of the following numbers x, "
            + "d becomes d * 31 + x, which wraps around as a 64-bit integer: what count() tells, in its order; "
            + "for each rack what rack() tells; for each lock what told() tells, "
            + "then the wear of each ring at each letter (all in their order).");
        Edge.onlyTells("of all kinds", checksum(numbers(Stations.mixed())), Stations::mixed, x -> x.digest());
        Edge.answers("of all, worn out", checksum(numbers(wornOut())), HoursEdges::wornOut, x -> x.digest());
    }

    private static int[] numbers(LetterLocks x) {
        int[] all = new int[7 + 18 + 8 * 30];
        int next = 0;
        for (int what = 0; what < 7; what++) {
            all[next++] = x.count(what);
        }
        for (int i = 0; i < 18; i++) {
            all[next++] = x.rack(i / 6, i % 6);
        }
        for (int lock = 0; lock < 8; lock++) {
            for (int what = 0; what < 6; what++) {
                all[next++] = x.told(lock, what);
            }
            for (int i = 0; i < 24; i++) {
                all[next++] = x.wear(lock, i / 6, i % 6);
            }
        }
        return all;
    }
}
