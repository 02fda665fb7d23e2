import java.nio.file.Path;

/** Each sentence of the document that names a boundary case has checks of its own, and none is left out. */
public final class SentenceTest {
    private SentenceTest() {
    }

    public static void main(String[] args) throws Exception {
        Document document = new Document(Path.of("../shared/DOC.md"));
        Check check = new Check();
        Chapter[] chapters = {
            new BodySentences(document, check), new VapourSentences(document, check),
            new PlantSentences(document, check), new CylinderSentences(document, check),
            new StreamSentences(document, check), new GovernorSentences(document, check),
            new ClaimSentences(document, check), new SumSentences(document, check),
        };
        for (Chapter chapter : chapters) {
            chapter.run();
            chapter.endWords();
        }
        for (String sentence : document.unquoted()) {
            check.is("a sentence without checks: " + sentence, true, false);
        }
        check.end();
    }
}
