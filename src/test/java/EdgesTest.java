/** Every promise: one test for each sentence of the document that names a boundary case. */
public final class EdgesTest {
    public static void main(String[] args) {
        TermsEdges.all();
        RowsEdges.all();
        SettingsEdges.all();
        RunEdges.all();
        ResultsEdges.all();
        HavingEdges.all();
        Sentences.endOfAllPromises();
    }
}
