import java.io.IOException;
import java.nio.file.Path;

/** A test of its own for each sentence of the document: at what is told last, at what is told no more, empty, full. */
public final class EdgesTest {
    private EdgesTest() {
    }

    public static void main(String[] args) throws IOException {
        Check check = new Check(Document.read(Path.of(System.getProperty("wasitout.document", "../shared/DOC.md"))));
        TextEdges.run(check);
        FlightEdges.run(check);
        SightEdges.run(check);
        JudgeEdges.run(check);
        Refusals.run(check);
        if (check.end() != 0) {
            System.exit(1);
        }
    }
}
