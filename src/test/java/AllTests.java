import java.nio.file.Path;

/** Runs every test of the project; the arguments: the class's source, the document, README.md, how many passed and failed
 * ahead. */
public final class AllTests {
    public static void main(String[] args) throws Exception {
        String source = args.length > 0 ? args[0] : "src/main/java/PointsForAll.java";
        Document.read(Path.of(args.length > 1 ? args[1] : "../shared/DOC.md"));
        if (args.length > 4) {
            Checks.startFrom(Integer.parseInt(args[3]), Integer.parseInt(args[4]));
        }
        LanguageTest.run(source);
        ReadmeTest.run(Path.of(args.length > 2 ? args[2] : "README.md"));
        ThingsTest.run();
        WantsTest.run();
        BasketsTest.run();
        ChangingTest.run();
        MonthsTest.run();
        HistoryTest.run();
        ActsTest.run();
        ShelvesTest.run();
        ThingEdges.run();
        WantEdges.run();
        BasketEdges.run();
        ChangingEdges.run();
        MonthEdges.run();
        ActEdges.run();
        ShelfEdges.run();
        AnswerEdges.run();
        ModelTest.run();
        if (!Checks.report()) {
            System.exit(1);
        }
    }
}
