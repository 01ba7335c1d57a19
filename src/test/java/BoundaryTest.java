import java.io.IOException;
import java.nio.file.Path;

/** Each sentence of the document that names a boundary case has a test of its own here, which cites it. */
public final class BoundaryTest {
    public static void main(String[] args) throws IOException {
        Sentences sentences = new Sentences(Path.of("../shared/DOC.md"));
        ChartBoundaries.run(sentences);
        RouteBoundaries.run(sentences);
        SubscriberBoundaries.run(sentences);
        NightBoundaries.run(sentences);
        LineBoundaries.run(sentences);
        TextBoundaries.run(sentences);
        UndoBoundaries.run(sentences);
        sentences.end();
    }
}
