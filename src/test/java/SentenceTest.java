import java.io.IOException;

/** Each sentence of the document that names a boundary case has a test of its own here. */
final class SentenceTest {
    public static void main(String[] args) throws IOException {
        Due due = new Due();
        Sentences said = new Sentences(due);
        FormSaid.tell(said);
        ChangeSaid.tell(said);
        ChangePromised.tell(said);
        TapeSaid.tell(said);
        BesideSaid.tell(said);
        StepsSaid.tell(said);
        AskSaid.tell(said);
        SearchSaid.tell(said);
        said.end();
        due.end("SentenceTest");
    }
}
