import java.io.IOException;
import java.nio.file.Path;

/**
 * The edges that the document names, sentence by sentence. Each Words.hold(..) says which promise or
 * term and which words the answers behind it hold; words that none holds are told at the end.
 */
public final class EdgesTest {
    public static void main(String[] args) throws IOException {
        Words.read(Path.of(System.getProperty("shared", "../shared")).resolve("DOC.md"));
        TapeEdges.all();
        TravelEdges.all();
        CountsEdges.all();
        CrowdEdges.all();
        BandEdges.all();
        ActsEdges.all();
        SlotEdges.all();
        Words.finish();
        Check.finish("EdgesTest");
    }
}
