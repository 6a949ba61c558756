import java.io.IOException;
import java.nio.file.Path;

/** The document's edges, sentence by sentence; it is told by its file, so that a test can't be of words that it has not. */
public final class EdgeTests {
    public static void main(String[] args) throws IOException {
        Edges.begin(new Words(Path.of(args[0])));
        Edges[] all = {new EdgesOfText(), new EdgesOfAnswers(), new EdgesOfNights(), new EdgesOfSights(), new EdgesOfSheets()};
        for (Edges some : all) some.tests();
        if (!Edges.allHold()) System.exit(1);
    }
}
