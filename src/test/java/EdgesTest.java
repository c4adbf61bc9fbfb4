import java.io.IOException;
import java.nio.file.Path;

/** One test for each sentence of the document that names a boundary case; it is run from the project's folder. */
public final class EdgesTest {
    public static void main(String[] args) throws IOException {
        Edges edges = new Edges(Path.of("../shared/DOC.md"));
        theyAreWhatTheyAreSaidToBe();
        EdgesOfTerms.all(edges);
        EdgesOfChanges.all(edges);
        EdgesOfQuestions.all(edges);
        EdgesOfTexts.all(edges);
        EdgesOfLooks.all(edges);
        EdgesOfWhatWouldBe.all(edges);
        edges.noneLeft();
        Check.end("EdgesTest");
    }

    /** The objects that the tests begin with are only of use if nothing in them is as at first. */
    private static void theyAreWhatTheyAreSaidToBe() {
        RowVeils x = Edges.busy();
        int[] totals = {7, 13, 2, 2, 1, 8, 2, 1, 9, 6};
        for (int what = 0; what < 10; what++) {
            Check.due("busy(): count(" + what + ")", x.count(what), totals[what]);
        }
        Check.due("busy(): questions of 0", x.personOf(0, 5), 2);
        Check.due("busy(): questions of 1", x.personOf(1, 5), 2);
        Check.due("busy(): digest()", x.digest(), Check.digestOf(x, "1e5!,2"));
        for (int saved = 0; saved <= 6; saved++) {
            Check.due("busyWithSaved(" + saved + ")", Edges.busyWithSaved(saved).count(9), saved);
        }
        RowVeils y = Edges.busyAndFull();
        Check.due("busyAndFull(): rows", y.count(0), 16);
        Check.due("busyAndFull(): characters", y.clearBuffer(), 60);
    }
}
