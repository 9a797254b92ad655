/** Promises 29 and 30: CHANGES are UNDONE and DONE AGAIN. */
final class HistoryTest extends Checks {
    static void run() {
        undo();
        redo();
        fortyAtMost();
    }

    private static PointsForAll made() {
        PointsForAll x = withWants("1");
        x.thing(10, 1010, 1);
        x.sort(1, 1010, 10);
        return x;
    }

    private static void undo() {
        test("promise 29: undo");
        PointsForAll x = made();
        due("things and sorts are no changes", x.undo(), STATE);
        x.mend(0, 0, 11);
        x.mend(0, 1, 12);
        x.mend(0, 2, 13);
        x.purse(0, 0, 14);
        x.purse(0, 1, 15);
        due("five", x.count(4), 5);
        x.mend(0, 0, 11);
        x.purse(0, 1, 15);
        due("the same number is none", x.count(4), 5);
        x.tell(0, 0);
        x.feed(1, 1);
        due("nor is what else is told", x.count(4), 5);
        due("the latest first", x.undo(), 4);
        due("book", x.of(0, 12), 20);
        due("purse stays", x.of(0, 11), 14);
        due("next", x.undo(), 3);
        due("purse", x.of(0, 11), 10);
        due("next", x.undo(), 2);
        due("points", x.of(0, 2), 10);
        due("next", x.undo(), 1);
        due("coin", x.of(0, 1), 10);
        due("the last", x.undo(), 0);
        due("many", x.of(0, 0), 10);
        due("none", x.undo(), STATE);
        due("none", x.count(4), 0);
    }

    private static void redo() {
        test("promise 30: redo");
        PointsForAll x = made();
        due("none", x.redo(), STATE);
        x.mend(0, 0, 1);
        x.mend(0, 0, 2);
        x.mend(0, 0, 3);
        due("none undone", x.redo(), STATE);
        x.undo();
        x.undo();
        x.undo();
        due("the first again", x.redo(), 2);
        due("many", x.of(0, 0), 1);
        due("may be undone", x.count(4), 1);
        due("the second", x.redo(), 1);
        due("many", x.of(0, 0), 2);
        x.mend(0, 0, 2);
        due("the same number came behind: no change", x.redo(), 0);
        due("many", x.of(0, 0), 3);
        x.undo();
        x.purse(0, 0, 77);
        due("another came behind", x.redo(), STATE);
        due("what is undone then", x.undo(), 2);
        due("purse", x.of(0, 11), 10);
        due("many", x.of(0, 0), 2);
        due("again", x.redo(), 0);
        due("purse", x.of(0, 11), 77);
        redoBehindSet();
    }

    private static void redoBehindSet() {
        PointsForAll x = withWants("1");
        x.sort(10, 6, 0);
        x.thing(15, 3, 0);
        x.purse(0, 0, 5);
        x.undo();
        x.set(60);
        due("SET that changed nothing", x.redo(), 0);
        x.mend(0, 2, 2);
        x.mend(0, 1, 0);
        x.purse(0, 0, 7);
        x.undo();
        x.set(60);
        due("SET that changed came behind", x.redo(), STATE);
        due("purse as it was", x.of(0, 11), 5);
    }

    private static void fortyAtMost() {
        test("promise 29: 40 at most are kept");
        PointsForAll x = made();
        for (int i = 1; i <= 40; i++) {
            x.mend(0, 0, 100 + i);
        }
        due("40", x.count(4), 40);
        x.mend(0, 0, 141);
        x.mend(0, 0, 142);
        due("40 still", x.count(4), 40);
        for (int left = 39; left >= 0; left--) {
            due("undone", x.undo(), left);
            due("as it was", x.of(0, 0), 102 + left);
        }
        due("the first two are lost", x.undo(), STATE);
        for (int left = 39; left >= 0; left--) {
            due("done again", x.redo(), left);
            due("as it became", x.of(0, 0), 142 - left);
        }
        due("no more", x.redo(), STATE);
        x.undo();
        x.mend(0, 0, 9);
        due("one in its stead", x.count(4), 40);
        due("no more", x.redo(), STATE);
    }
}
