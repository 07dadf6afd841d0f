/** Each sentence of the document has a test that quotes it, those that name boundaries above all. */
public final class SentencesTest {
    private SentencesTest() {
    }

    public static void main(String[] args) {
        TermsSentences.all();
        ChangesSentences.all();
        TextsSentences.all();
        LooksSentences.all();
        ForecastsSentences.all();
        Page.dueAllQuoted("Terms", "Promise 27");
        Check.finish("SentencesTest");
    }
}
