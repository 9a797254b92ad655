/** Runs every test of the project; the arguments: the class's source, and how many passed and failed ahead. */
public final class AllTests {
    public static void main(String[] args) throws Exception {
        String source = args.length > 0 ? args[0] : "src/main/java/PointsForAll.java";
        if (args.length > 2) {
            Checks.startFrom(Integer.parseInt(args[1]), Integer.parseInt(args[2]));
        }
        LanguageTest.run(source);
        ThingsTest.run();
        WantsTest.run();
        BasketsTest.run();
        ChangingTest.run();
        MonthsTest.run();
        HistoryTest.run();
        ActsTest.run();
        ShelvesTest.run();
        ModelTest.run();
        if (!Checks.report()) {
            System.exit(1);
        }
    }
}
