import java.io.IOException;
import java.nio.file.Path;

/** Every sentence of the document's Terms and promises, with the answers that are due by it. */
public final class BoundsTest {
    private BoundsTest() {
    }

    public static void main(String[] args) throws IOException {
        Bounds due = new Bounds(Path.of("../shared/DOC.md"));
        BoundsOfTheChart.ask(due);
        BoundsOfLogs.ask(due);
        BoundsOfTheLaw.ask(due);
        BoundsOfAnHour.ask(due);
        BoundsOfTheSea.ask(due);
        BoundsOfSums.ask(due);
        BoundsOfCalls.ask(due);
        PlainSentences.ask(due);
        due.end();
    }
}
