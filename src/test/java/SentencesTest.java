/** The document sentence by sentence: each that names a boundary has a test of its own, and none is left out. */
public final class SentencesTest {
    private SentencesTest() {
    }

    public static void main(String[] args) {
        Sentences s = new Sentences();
        TextSentences.all(s);
        WaveSentences.all(s);
        SeenSentences.all(s);
        RuleSentences.all(s);
        GivenSentences.all(s);
        BearingSentences.all(s);
        ImageSentences.all(s);
        s.close();
    }
}
