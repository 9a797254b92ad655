/** Promises 31 to 33: PURSES, their ACTS, and THE TRACE. */
final class ActsTest extends Checks {
    // By KIND (the PURSE's number, too) and ACT: what it answers to 5, and which bodies run.
    private static final int[][] ANSWERS = {
        {5, 10, 5, 9}, {9, 18, 4, 18}, {7, -14, 7, -17}, {8, -16, 18, -22},
        {9, -18, -5, -17}, {11, -22, 0, -37}, {22, 44, 3, 37}, {12, -28, -7, -26}};
    private static final int[][][] TRACES = {
        {{1}, {10, 1}, {11}, {2, 10, 1, 11}},
        {{20, 1}, {10, 20, 1}, {11}, {2, 10, 20, 1, 11}},
        {{1}, {30, 10, 1}, {11}, {2, 30, 10, 1, 11}},
        {{1}, {30, 10, 1}, {40, 11}, {2, 30, 10, 1, 40, 11}},
        {{1}, {30, 10, 1}, {50, 11, 1}, {2, 30, 10, 1, 50, 11, 1}},
        {{60, 1}, {30, 10, 60, 1}, {40, 11}, {61, 2, 30, 10, 60, 1, 40, 11}},
        {{70, 1}, {10, 70, 1}, {11}, {2, 10, 70, 1, 11}},
        {{1}, {80, 30, 10, 1, 50, 11, 1}, {50, 11, 1}, {81, 2, 80, 30, 10, 1, 50, 11, 1, 50, 11, 1}}};

    static void run() {
        body();
        act();
        wrapping();
        noSuchAct();
        trace();
    }

    private static PointsForAll withAllKinds() {
        PointsForAll x = new PointsForAll();
        for (int kind = 0; kind < 8; kind++) {
            due("body of kind " + kind, x.body(kind), kind);
        }
        return x;
    }

    private static void body() {
        test("promise 31: body");
        PointsForAll x = new PointsForAll();
        due("kind below", x.body(-1), BAD);
        due("kind above", x.body(8), BAD);
        for (int i = 0; i < 50; i++) {
            due("body " + i, x.body(i % 8), i);
        }
        due("one too many", x.body(0), FULL);
        due("BAD ahead of FULL", x.body(8), BAD);
        due("count", x.count(5), 50);
        due("the last", x.act(49, 0, 1), 1 + 49 + 3);
    }

    private static void act() {
        test("promise 32: act");
        PointsForAll x = withAllKinds();
        for (int kind = 0; kind < 8; kind++) {
            for (int act = 0; act < 4; act++) {
                due("act(" + kind + ", " + act + ", 5)", x.act(kind, act, 5), ANSWERS[kind][act]);
            }
        }
    }

    private static void wrapping() {
        test("promise 32: x wraps");
        PointsForAll x = withAllKinds();
        due("COIN buys", x.act(1, 0, Integer.MAX_VALUE), Integer.MIN_VALUE + 3);
        due("TOLD buys", x.act(6, 0, Integer.MAX_VALUE), 10);
        due("POINTS keeps", x.act(2, 1, (1 << 30) - 2), Integer.MIN_VALUE);
        due("BABY buys", x.act(5, 0, Integer.MAX_VALUE), Integer.MIN_VALUE + 5);
        due("PURSE lends", x.act(0, 2, Integer.MIN_VALUE), Integer.MIN_VALUE);
    }

    private static void noSuchAct() {
        test("promise 32: no such PURSE, ACT");
        PointsForAll x = withAllKinds();
        int[][] wrong = {{8, 0}, {-1, 0}, {0, -1}, {0, 4}};
        for (int[] one : wrong) {
            x.act(7, 3, 5);
            due("bodies that ran", x.count(6), 12);
            due("act", x.act(one[0], one[1], 5), 0);
            due("no body ran", x.count(6), 0);
            due("no TRACE", x.trace(0), BAD);
        }
    }

    private static void trace() {
        test("promise 33: trace");
        PointsForAll x = withAllKinds();
        for (int kind = 0; kind < 8; kind++) {
            for (int act = 0; act < 4; act++) {
                x.act(kind, act, 5);
                int[] trace = TRACES[kind][act];
                due("bodies that ran", x.count(6), trace.length);
                for (int i = 0; i < trace.length; i++) {
                    due("trace of act " + act + " of kind " + kind + " at " + i, x.trace(i), trace[i]);
                }
                due("behind the last", x.trace(trace.length), BAD);
                due("below", x.trace(-1), BAD);
            }
        }
        due("far above", x.trace(Integer.MAX_VALUE), BAD);
        due("at 24", x.trace(24), BAD);
    }
}
