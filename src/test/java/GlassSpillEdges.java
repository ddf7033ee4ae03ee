/** A test for each sentence of the document that names a boundary case; none may be left without one. */
public final class GlassSpillEdges {
    private GlassSpillEdges() {
    }

    public static void main(String[] args) {
        EdgesOfTerms.run();
        EdgesOfChanges.run();
        EdgesOfAnswers.run();
        EdgesOfTextsAndStates.run();
        int wrong = Edges.wrong();
        System.out.println(wrong == 0 ? "all boundary cases are as due" : wrong + " boundary cases are not as due");
        if (wrong != 0) {
            System.exit(1);
        }
    }
}
