import java.io.IOException;
import java.nio.file.Path;

/** Every sentence of the document that names an edge (too small, too large, empty, full, alike, refused), one after the other. */
final class EdgesTest {
    private EdgesTest() { }

    public static void main(String[] args) throws IOException {
        Check check = new Check("EdgesTest");
        Sentences sentences = new Sentences(Path.of("../shared/DOC.md"));
        new EdgesOfTexts(check, sentences).look();
        new EdgesOfTown(check, sentences).look();
        new EdgesOfQuestions(check, sentences).look();
        new EdgesOfTold(check, sentences).look();
        for (String left : sentences.edgesNotQuoted()) {
            check.due("an edge that no test has quoted, " + left, 1, 0);
        }
        check.end();
    }
}
