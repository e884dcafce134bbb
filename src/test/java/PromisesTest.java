import java.io.IOException;
import java.nio.file.Files;
import java.nio.file.Path;

/**
 * Every sentence of the promises, and of the terms that they take up, with a test of its own. The
 * sentences are looked up in the document; if it is not there, they are tested all the same.
 */
public final class PromisesTest {
    private static final Path DOCUMENT = Path.of("..", "shared", "DOC.md");

    public static void main(String[] args) throws IOException {
        Document document = Files.exists(DOCUMENT) ? Document.at(DOCUMENT) : new Document();
        Checks checks = new Checks("PromisesTest", document);
        TermsOfTexts.ask(checks);
        TermsOfThings.ask(checks);
        TermsOfReasons.ask(checks);
        PromisesOfMethods.ask(checks);
        PromisesOfObjects.ask(checks);
        PromisesOfSteps.ask(checks);
        PromisesOfGoods.ask(checks);
        PromisesOfPlans.ask(checks);
        checks.end();
    }
}
