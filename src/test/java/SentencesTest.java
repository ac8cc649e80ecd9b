import java.io.IOException;

/** Each sentence of the document's terms and promises, with a test of its own. */
final class SentencesTest {
    public static void main(String[] args) throws IOException {
        Doc.read();
        FloorSentences.all();
        ProgramSentences.all();
        StepSentences.all();
        BeltSentences.all();
        TextSentences.all();
        TextCallSentences.all();
        QuerySentences.all();
        ChangeSentences.all();
        ActionSentences.all();
        WouldBeSentences.all();
        SimulationSentences.all();
        SlotSentences.all();
        ExceptionSentences.all();
        Doc.everythingIsTested();
        Check.end();
    }
}
