/** Looks at single calls on fresh stations: what a call at an edge answers, and that a refused one changes nothing. */
final class Edge {
    /** A station made by the same calls whenever it is asked for. */
    interface Made {
        LetterLocks make();
    }

    interface Call {
        Object on(LetterLocks x);
    }

    /** A call with the one argument whose edges are looked at. */
    interface With {
        Object on(LetterLocks x, int argument);
    }

    private Edge() {
    }

    /** The call answers this; what it changes shows by further calls on the station that is handed back. */
    static LetterLocks answers(String what, Object want, Made made, Call call) {
        LetterLocks x = made.make();
        Check.due(what, Check.thrownBy(() -> want), Check.thrownBy(() -> call.on(x)));
        return x;
    }

    /** The call throws just this, and every later answer is that of a station on which it has not been made. */
    static void refused(String what, Class<? extends RuntimeException> want, Made made, Call call) {
        LetterLocks x = made.make();
        Check.due(what, want.getSimpleName(), Check.thrownBy(() -> call.on(x)));
        Check.due("behind " + what + " all that is asked later", later(made.make()), later(x));
    }

    /** The call answers this, and every later answer is that of a station on which it has not been made. */
    static void onlyTells(String what, Object want, Made made, Call call) {
        LetterLocks x = answers(what, want, made, call);
        Check.due("behind " + what + " all that is asked later", later(made.make()), later(x));
    }

    /** The least and the largest number are taken; those next to them, and those far off, are refused. */
    static void range(Class<? extends RuntimeException> want, int least, int largest, Made made, With call) {
        Check.throwsNothing("the least, " + least + ",", () -> call.on(made.make(), least));
        Check.throwsNothing("the largest, " + largest + ",", () -> call.on(made.make(), largest));
        for (int no : new int[] {least - 1, largest + 1, Integer.MIN_VALUE, Integer.MAX_VALUE}) {
            refused("with " + no + " the call", want, made, x -> call.on(x, no));
        }
    }

    /** A lock's number is looked at: of none, of one, and of all locks, the station being made with so many. */
    static void lockNumbers(With call) {
        refused("without locks, of 0, the call", Check.INDEX, LetterLocks::new, x -> call.on(x, 0));
        refused("without locks, of -1, the call", Check.INDEX, LetterLocks::new, x -> call.on(x, -1));
        range(Check.INDEX, 0, 0, () -> Stations.open(1), call);
        range(Check.INDEX, 0, 7, () -> Stations.open(8), call);
        refused("of 8 the call", Check.INDEX, Stations::mixed, x -> call.on(x, 8));
        refused("of -1 the call", Check.INDEX, Stations::mixed, x -> call.on(x, -1));
    }

    /** What a station answers from here on: all that it tells, what would be, and what changes answer then. */
    static String later(LetterLocks x) {
        StringBuilder all = new StringBuilder(Stations.told(x));
        int locks = x.count(1);
        for (int i = 0; i < locks; i++) {
            int lock = i;
            tell(all, () -> x.trial(lock, 777));
            tell(all, () -> x.until(lock));
            tell(all, () -> x.foresee(30, lock));
        }
        tell(all, x::weakest);
        tell(all, x::mean);
        change(all, x, locks);
        tell(all, x::digest);
        return all.toString();
    }

    private static void change(StringBuilder all, LetterLocks x, int locks) {
        for (int rack = 0; rack < 3; rack++) {
            int changed = rack;
            tell(all, () -> x.setPlaces(changed, 5 - changed));
            tell(all, () -> x.setHours(changed, 9 * changed, 24 - 5 * changed));
        }
        for (int i = 0; i < locks; i++) {
            int lock = i;
            tell(all, () -> x.put(lock, lock % 4 - 1));
            tell(all, () -> x.turn(lock, lock % 4, lock % 6));
            tell(all, () -> x.open(lock));
            tell(all, () -> x.rename(lock, 100 + lock));
            tell(all, () -> x.lose(lock, lock % 2 == 0));
        }
        tell(all, () -> x.lock(1000));
        tell(all, () -> x.pass(20));
        tell(all, () -> x.shut(0));
    }

    private static void tell(StringBuilder all, Check.Call call) {
        all.append(Check.thrownBy(call)).append("; ");
    }
}
