import java.nio.file.Path;

/** Runs every test of the project; the arguments: the class's source, the document, how many passed and failed ahead. */
public final class AllTests {
    public static void main(String[] args) throws Exception {
        String source = args.length > 0 ? args[0] : "src/main/java/PointsForAll.java";
        Document.read(Path.of(args.length > 1 ? args[1] : "../shared/DOC.md"));
        if (args.length > 3) {
            Checks.startFrom(Integer.parseInt(args[2]), Integer.parseInt(args[3]));
        }
        LanguageTest.run(source);
        ThingsTest.run();
        WantsTest.run();
        BasketsTest.run();
        ChangingTest.run();
        MonthsTest.run();
        HistoryTest.run();
        ActsTest.run();
        ShelvesTest.run();
        ThingEdges.run();
        WantEdges.run();
        BasketEdges.run();
        ChangingEdges.run();
        MonthEdges.run();
        ActEdges.run();
        ShelfEdges.run();
        AnswerEdges.run();
        ModelTest.run();
        if (!Checks.report()) {
            System.exit(1);
        }
    }
}
