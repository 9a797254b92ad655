/** Promises 1 to 7 and 40: things, sorts, and how many there are. */
final class ThingsTest extends Checks {
    static void run() {
        aNewObject();
        thing();
        things();
        mend();
        sort();
        purse();
        of();
        count();
    }

    private static void aNewObject() {
        test("promise 1: a new object has no things, no people");
        PointsForAll x = new PointsForAll();
        for (int what = 0; what <= 6; what++) {
            due("count(" + what + ")", x.count(what), 0);
        }
        due("of(0, 0)", x.of(0, 0), BAD);
        due("of(0, 10)", x.of(0, 10), BAD);
        due("wanted(-1, 1)", x.wanted(-1, 1), 0);
        due("judge", x.judge(), NOT);
        due("undo", x.undo(), STATE);
        due("redo", x.redo(), STATE);
        due("element(0, 0)", x.element(0, 0), Long.MIN_VALUE);
        due("put(0, 0, 1)", x.put(0, 0, 1), -11);
        due("trace(0)", x.trace(0), BAD);
    }

    private static void thing() {
        test("promise 2: thing");
        PointsForAll x = new PointsForAll();
        due("many below", x.thing(-1, 0, 0), BAD);
        due("many above", x.thing(1000, 0, 0), BAD);
        due("cp below", x.thing(0, -1, 0), BAD);
        due("cp above", x.thing(0, 10000, 0), BAD);
        due("made below", x.thing(0, 0, -1), BAD);
        due("made above", x.thing(0, 0, 100), BAD);
        due("far off", x.thing(Integer.MIN_VALUE, Integer.MAX_VALUE, Integer.MAX_VALUE), BAD);
        due("none came", x.count(0), 0);
        due("the least", x.thing(0, 0, 0), 0);
        due("the greatest", x.thing(999, 9999, 99), 1);
        due("an ordinary one", x.thing(12, 345, 6), 2);
        due("coin", x.of(2, 1), 3);
        due("points", x.of(2, 2), 45);
        for (int i = 3; i < 6; i++) {
            due("thing " + i, x.thing(i, i, i), i);
        }
        due("the seventh", x.thing(1, 1, 1), FULL);
        due("BAD ahead of FULL", x.thing(1000, 1, 1), BAD);
        due("count", x.count(0), 6);
    }

    private static PointsForAll withShorts(int... values) {
        PointsForAll x = new PointsForAll();
        x.row(2, 1, values.length);
        for (int i = 0; i < values.length; i++) {
            x.put(2, i, values[i]);
        }
        return x;
    }

    private static void things() {
        test("promise 3: things from a row");
        PointsForAll x = withShorts(7, 1, 2, 3, 8, 4, 5, 6, 9, 0, 0, 0, 10, 1);
        due("shelf below", x.things(-1, 0, 1), BAD);
        due("shelf above", x.things(6, 0, 1), BAD);
        due("n below", x.things(2, 0, 0), BAD);
        due("n above", x.things(2, 0, 7), BAD);
        due("nothing there", x.things(0, 0, 1), 0);
        due("one of three", x.things(2, 4, 1), 1);
        due("many", x.of(0, 0), 8);
        due("coin", x.of(0, 1), 4);
        due("points", x.of(0, 2), 5);
        due("made", x.of(0, 3), 6);
        due("ends within a four", x.things(2, 0, 6), 3);
        due("in their order", x.of(1, 0) * 100 + x.of(2, 0) * 10 + x.of(3, 0), 700 + 80 + 9);
        due("from the middle of a four", x.things(2, 1, 1), 1);
        due("as it stands there", x.of(4, 0), 1);
        due("place below", x.things(2, -1, 1), 0);
        due("place far below", x.things(2, Integer.MIN_VALUE, 6), 0);
        due("place at the end", x.things(2, 14, 1), 0);
        due("place far above", x.things(2, Integer.MAX_VALUE, 6), 0);
        due("until FULL", x.things(2, 0, 6), 1);
        due("FULL", x.things(2, 0, 6), 0);
        due("a row of ints", x.row(3, 2, 8), 1);
        due("of another kind", x.things(3, 0, 1), -12);
        due("BAD ahead of it", x.things(3, 0, 7), BAD);
        x.keep(4, x.body(0));
        due("a PURSE", x.things(4, 0, 1), -12);
        thingsThatAreNotSo();
    }

    private static void thingsThatAreNotSo() {
        test("promise 3: things end at one that is not so");
        int[][] wrong = {{1000, 0, 0, 0}, {-1, 0, 0, 0}, {0, 100, 0, 0}, {0, -1, 0, 0}, {0, 0, 100, 0}, {0, 0, -1, 0},
            {0, 0, 0, 100}, {0, 0, 0, -1}};
        for (int[] four : wrong) {
            PointsForAll x = withShorts(999, 99, 99, 99, four[0], four[1], four[2], four[3], 1, 1, 1, 1);
            due("ahead of the wrong one", x.things(2, 0, 3), 1);
            due("only that", x.count(0), 1);
            due("the wrong one first", x.things(2, 4, 2), 0);
        }
        PointsForAll x = withShorts(1, 1, 1);
        due("shorter than a four", x.things(2, 0, 1), 0);
        PointsForAll y = withShorts(0, 0, 0, 0, 999, 99, 99, 99);
        due("the least and the greatest, up to the row's end", y.things(2, 0, 6), 2);
    }

    private static void mend() {
        test("promise 4: mend");
        PointsForAll x = new PointsForAll();
        x.thing(50, 1020, 30);
        due("no such thing", x.mend(1, 0, 1), BAD);
        due("thing below", x.mend(-1, 0, 1), BAD);
        due("what below", x.mend(0, -1, 1), BAD);
        due("what above", x.mend(0, 3, 1), BAD);
        for (int what = 0; what < 3; what++) {
            int top = what == 0 ? 999 : 99;
            int was = what == 0 ? 50 : what == 1 ? 10 : 20;
            due("below", x.mend(0, what, -1), BAD);
            due("above", x.mend(0, what, top + 1), BAD);
            due("as it was", x.of(0, what), was);
            due("the greatest", x.mend(0, what, top), was);
            due("the least", x.mend(0, what, 0), top);
            due("now", x.of(0, what), 0);
        }
        due("MADE stays", x.of(0, 3), 30);
    }

    private static void sort() {
        test("promise 5: sort");
        PointsForAll x = new PointsForAll();
        due("no WANT yet", x.sort(1, 0, 0), BAD);
        wantText(x, "1");
        due("heads below", x.sort(0, 0, 0), BAD);
        due("heads above", x.sort(100, 0, 0), BAD);
        due("pb below", x.sort(1, -1, 0), BAD);
        due("pb above", x.sort(1, 10000, 0), BAD);
        due("bw below", x.sort(1, 0, -1), BAD);
        due("babies above", x.sort(1, 0, 40), BAD);
        due("no such WANT", x.sort(1, 0, 1), BAD);
        due("no such WANT, with babies", x.sort(1, 0, 39), BAD);
        due("none came", x.count(1), 0);
        due("the least", x.sort(1, 0, 0), 0);
        due("the greatest", x.sort(99, 9999, 30), 1);
        wantText(x, "2");
        due("an ordinary one", x.sort(20, 1234, 21), 2);
        due("heads", x.of(2, 10), 20);
        due("purse", x.of(2, 11), 12);
        due("points in all", x.of(2, 12), 54);
        due("babies", x.of(2, 13), 2);
        due("want", x.of(2, 14), 1);
        x.sort(1, 0, 0);
        x.sort(1, 0, 0);
        due("the sixth", x.sort(1, 0, 0), FULL);
        due("BAD ahead of FULL", x.sort(0, 0, 0), BAD);
    }

    private static void purse() {
        test("promise 6: purse");
        PointsForAll x = withWants("1");
        x.sort(3, 1020, 20);
        due("no such sort", x.purse(1, 0, 1), BAD);
        due("sort below", x.purse(-1, 0, 1), BAD);
        due("what below", x.purse(0, -1, 1), BAD);
        due("what above", x.purse(0, 2, 1), BAD);
        due("below", x.purse(0, 0, -1), BAD);
        due("above", x.purse(0, 1, 100), BAD);
        due("purse", x.purse(0, 0, 99), 10);
        due("purse again", x.purse(0, 0, 0), 99);
        due("book, without babies", x.purse(0, 1, 99), 20);
        due("points in all", x.of(0, 12), 119);
        due("book again", x.purse(0, 1, 0), 99);
        due("points of babies stay", x.of(0, 12), 20);
    }

    private static void of() {
        test("promise 7: of");
        PointsForAll x = withWants("1");
        x.thing(1, 203, 4);
        x.thing(5, 607, 8);
        x.sort(9, 1011, 10);
        due("many", x.of(1, 0), 5);
        due("coin", x.of(1, 1), 6);
        due("points", x.of(1, 2), 7);
        due("made", x.of(1, 3), 8);
        due("heads", x.of(0, 10), 9);
        due("purse", x.of(0, 11), 10);
        due("points in all", x.of(0, 12), 21);
        due("babies", x.of(0, 13), 1);
        due("want", x.of(0, 14), 0);
        due("thing above", x.of(2, 0), BAD);
        due("thing below", x.of(-1, 3), BAD);
        due("sort above", x.of(1, 10), BAD);
        due("sort below", x.of(-1, 14), BAD);
        due("what below", x.of(0, -1), BAD);
        due("what between", x.of(0, 4), BAD);
        due("what between", x.of(0, 9), BAD);
        due("what above", x.of(0, 15), BAD);
    }

    private static void count() {
        test("promise 40: count");
        PointsForAll x = withWants("1", "2");
        x.thing(1, 1, 1);
        x.thing(1, 1, 1);
        x.thing(1, 1, 1);
        x.sort(1, 1, 0);
        x.feed(3, 0);
        x.mend(0, 0, 9);
        x.mend(0, 0, 9);
        x.mend(1, 1, 9);
        x.body(3);
        x.act(0, 3, 1);
        due("what below", x.count(-1), BAD);
        due("what above", x.count(7), BAD);
        due("things", x.count(0), 3);
        due("sorts", x.count(1), 1);
        due("wants", x.count(2), 2);
        due("bytes on the tape", x.count(3), 3);
        due("changes", x.count(4), 2);
        due("purses", x.count(5), 1);
        due("bodies that ran", x.count(6), 6);
    }
}
