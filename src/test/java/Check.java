/** Counts the answers that are not as due; each test ends by done(). */
final class Check {
    interface Call {
        Object run();
    }

    static final Class<IllegalArgumentException> ARGUMENT = IllegalArgumentException.class;
    static final Class<IllegalStateException> STATE = IllegalStateException.class;
    static final Class<IndexOutOfBoundsException> INDEX = IndexOutOfBoundsException.class;

    private static final String NOTHING = "nothing, but ";

    private static String sentence = "";
    private static int wrong = 0;
    private static int looked = 0;

    private Check() {
    }

    /** The sentence of the document that the following answers are due to. */
    static void under(String quoted) {
        sentence = quoted + ": ";
    }

    static void due(String what, Object want, Object got) {
        looked++;
        if (!want.equals(got)) {
            wrong++;
            System.out.println(sentence + what + " answered " + got + ", due is " + want);
        }
    }

    static void throwsNothing(String what, Call call) {
        String thrown = thrownBy(call);
        due(what + " throws", NOTHING, thrown.startsWith(NOTHING) ? NOTHING : thrown);
    }

    /** The exception's own name, and a mark if the library threw it, not a throw of the program or its model. */
    static String thrownBy(Call call) {
        try {
            return NOTHING + call.run();
        } catch (RuntimeException e) {
            return e.getClass().getSimpleName() + (isOwn(e) ? "" : " of the library");
        }
    }

    private static boolean isOwn(RuntimeException e) {
        StackTraceElement[] calls = e.getStackTrace();
        return calls.length > 0 && calls[0].getClassName().matches("(Letter|Slow)Locks.*");
    }

    static void done() {
        System.out.println(looked + " answers looked at, " + wrong + " not as due");
        if (wrong != 0) {
            System.exit(1);
        }
    }
}
