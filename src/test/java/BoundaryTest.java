import java.nio.file.Files;
import java.nio.file.Path;

/** Each sentence of the document that names a boundary, with calls on both sides of it; the document is the second argument. */
public final class BoundaryTest {
    public static void main(String[] args) throws Exception {
        BoundaryPeople.all();
        BoundaryTexts.all();
        BoundaryViews.all();
        BoundaryLetters.all();
        BoundaryMeasures.all();
        BoundaryRules.all();
        Boundary.holdAgainst(Files.readString(Path.of(args[1])));
        System.out.println(Boundary.sentences() + " sentences that name a boundary, " + Boundary.answers() + " answers, "
                + Boundary.wrong() + " complaints");
        if (Boundary.wrong() > 0) System.exit(1);
    }
}
