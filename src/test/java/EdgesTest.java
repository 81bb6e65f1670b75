import java.io.IOException;

/** Every boundary case that the document names, sentence by sentence; no line of a promise is left out. */
public final class EdgesTest {
    public static void main(String[] args) throws IOException {
        Document document = new Document();
        Edges.open(document);
        EdgesOfTerms.run();
        EdgesOfText.run();
        EdgesOfQuestions.run();
        EdgesOfActions.run();
        EdgesOfForecasts.run();
        EdgesOfScripts.run();
        EdgesOfSlots.run();
        for (String line : document.linesLeftOut()) {
            Checks.same("tests of " + line, 0, 1);
        }
        Checks.end();
    }
}
