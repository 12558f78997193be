/** Every sentence of the document's terms and promises, each with a test of its own. */
public final class SentencesTest {
    private SentencesTest() {
    }

    public static void main(String[] args) {
        Doc.open();
        TextSentences.hold();
        WorldSentences.hold();
        SoughtSentences.hold();
        FaceSentences.hold();
        AskedSentences.hold();
        ThrowSentences.hold();
        Doc.end();
        Due.end();
    }
}
