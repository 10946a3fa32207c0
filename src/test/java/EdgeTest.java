import java.io.IOException;
import java.nio.file.Path;

/** Each sentence of the document by itself: the edges that it names, what throws, and that all of them have a test. */
public final class EdgeTest {
    public static void main(String[] args) throws IOException {
        Sentences all = new Sentences(Path.of("../shared/DOC.md"));
        EdgesOfTerms.tell(all);
        EdgesOfWriting.tell(all);
        EdgesOfQueries.tell(all);
        EdgesOfThrows.tell(all);
        EdgesOfDocuments.tell(all);
        EdgesOfLooks.tell(all);
        all.end("EdgeTest");
    }
}
