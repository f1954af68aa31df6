/** Counts the answers that are not as due; each test ends by done(). */
final class Check {
    interface Call {
        Object run();
    }

    static final Class<IllegalArgumentException> ARGUMENT = IllegalArgumentException.class;
    static final Class<IllegalStateException> STATE = IllegalStateException.class;
    static final Class<IndexOutOfBoundsException> INDEX = IndexOutOfBoundsException.class;

    private static int wrong = 0;
    private static int looked = 0;

    private Check() {
    }

    static void due(String what, Object want, Object got) {
        looked++;
        if (!want.equals(got)) {
            wrong++;
            System.out.println(what + " answered " + got + ", due is " + want);
        }
    }

    /** Looks that the call throws just this exception, and that nothing is changed by it. */
    static void refuses(String what, Class<? extends RuntimeException> want, LetterLocks x, Call call) {
        String before = allOf(x);
        due(what, want.getSimpleName(), thrownBy(call));
        due(what + ", what there is behind it,", before, allOf(x));
    }

    /** The exception's own name, and a mark if the library threw it, not a throw of the program or its model. */
    static String thrownBy(Call call) {
        try {
            return "nothing, but " + call.run();
        } catch (RuntimeException e) {
            return e.getClass().getSimpleName() + (isOwn(e) ? "" : " of the library");
        }
    }

    private static boolean isOwn(RuntimeException e) {
        StackTraceElement[] calls = e.getStackTrace();
        return calls.length > 0 && calls[0].getClassName().matches("(Letter|Slow)Locks.*");
    }

    /** All that can be asked; a lost word shows by the trials in which it is found. */
    static String allOf(LetterLocks x) {
        StringBuilder all = new StringBuilder();
        for (int what = 0; what < 7; what++) {
            all.append(x.count(what)).append(' ');
        }
        for (int rack = 0; rack < 3; rack++) {
            for (int what = 0; what < 6; what++) {
                all.append(x.rack(rack, what)).append(' ');
            }
        }
        for (int lock = 0; lock < x.count(1); lock++) {
            for (int what = 0; what < 6; what++) {
                all.append(x.told(lock, what)).append(' ');
            }
            all.append(x.safe(lock)).append(": ");
            for (int ring = 0; ring < 4; ring++) {
                for (int letter = 0; letter < 6; letter++) {
                    all.append(x.wear(lock, ring, letter)).append(' ');
                }
            }
        }
        return all.toString();
    }

    static void done() {
        System.out.println(looked + " answers looked at, " + wrong + " not as due");
        if (wrong != 0) {
            System.exit(1);
        }
    }
}
