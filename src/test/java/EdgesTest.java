/** The document sentence by sentence: each has a test, under its quotation, and its boundary cases have one of their own. */
public final class EdgesTest {
    public static void main(String[] args) {
        FaceEdges.run();
        TermsEdges.run();
        HourEdges.run();
        LocksEdges.run();
        RacksEdges.run();
        ToldEdges.run();
        WordsEdges.run();
        HoursEdges.run();
        Doc.isQuoted();
        Check.done();
    }
}
