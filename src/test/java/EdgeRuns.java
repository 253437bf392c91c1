import java.io.IOException;

/** One test for each sentence of the document that names a boundary, promise by promise. */
public final class EdgeRuns {
    public static void main(String[] args) throws IOException {
        EdgesOfComers.run();
        EdgesOfTheRule.run();
        EdgesOfRests.run();
        EdgesOfWeeks.run();
        EdgesOfTold.run();
        EdgesOfRoads.run();
        EdgesOfSheets.run();
        EdgesOfRefusals.run();
        EdgesOfQuestions.run();
        int unlike = Sentences.unlike();
        System.out.println(Edges.SENTENCES.size() + " sentences, " + unlike + " unlike the document; " + Edges.asked + " answers asked for, "
            + Edges.wrong + " wrong");
        if (Edges.wrong + unlike != 0) {
            System.exit(1);
        }
    }
}
