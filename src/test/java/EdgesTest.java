/** The boundary cases that the document names, sentence by sentence: each has a test of its own, under its quotation. */
public final class EdgesTest {
    public static void main(String[] args) {
        TermsEdges.run();
        HourEdges.run();
        LocksEdges.run();
        RacksEdges.run();
        ToldEdges.run();
        WordsEdges.run();
        HoursEdges.run();
        Doc.isQuoted();
        Check.done();
    }
}
