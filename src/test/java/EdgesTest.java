import java.io.IOException;
import java.nio.file.Path;

/** Each sentence of the document has a test of its own, at the edges that it names. */
public final class EdgesTest {
    public static void main(String[] args) throws IOException {
        Check check = new Check();
        Sentences sentences = new Sentences(check, new Document(Path.of("../shared/DOC.md")));
        new RefusalEdges(check).tell(sentences);
        new TextEdges(check).tell(sentences);
        new ActsEdges(check).tell(sentences);
        new PlansEdges(check).tell(sentences);
        new WordsEdges(check).tell(sentences);
        new LawsEdges(check).tell(sentences);
        new ChancesEdges(check).tell(sentences);
        new SlotsEdges(check).tell(sentences);
        sentences.end();
        check.end("EdgesTest");
    }
}
