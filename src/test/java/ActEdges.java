/** Boundaries of promises 31 to 33: PURSES, ACTS, THE TRACE. */
final class ActEdges extends Checks {
    static void run() {
        body();
        act();
        wrapping();
        trace();
    }

    /** One PURSE of each KIND, by its number. */
    private static Subject kinds() {
        Subject x = new Subject();
        for (int kind = 0; kind <= 7; kind++) {
            x.does("body(" + kind + ")");
        }
        return x;
    }

    private static void body() {
        edge(31, "A PURSE of a KIND (0 .. 7) is kept");
        new Subject().gives("body(0)", 0).gives("body(7)", 1).refuses(BAD, "body(-1)", "body(8)", "body(MIN)", "body(MAX)");

        edge(31, "PURSES are kept by call as BODIES 0 .. 49");
        Subject x = new Subject();
        for (int i = 0; i <= 49; i++) {
            x.gives("body(" + i % 8 + ")", i);
        }
        x.gives("count(5)", 50).refuses(FULL, "body(0)", "body(7)").gives("act(49, 0, 1)", 53).gives("act(50, 0, 1)", 0);

        edge(31, "BAD, FULL.");
        x.refuses(BAD, "body(-1)", "body(8)").refuses("body(0)", FULL);
    }

    private static void act() {
        edge(32, "An ACT (0 .. 3) of a PURSE with x.");
        kinds().gives("act(1, 0, 5)", 9).gives("act(1, 1, 5)", 18).gives("act(1, 2, 5)", 4).gives("act(1, 3, 5)", 18);

        edge(32, "0, and no TRACE then: no such PURSE, ACT.");
        String[] none = {"act(0, -1, 5)", "act(0, 4, 5)", "act(0, MIN, 5)", "act(0, MAX, 5)", "act(-1, 0, 5)", "act(8, 0, 5)",
            "act(MIN, 0, 5)", "act(MAX, 3, 5)"};
        for (String call : none) {
            kinds().gives("act(7, 3, 5)", -26).gives("count(6)", 12).gives(call, 0).gives("count(6)", 0).gives("trace(0)", BAD)
                .gives("count(5)", 8).gives("act(7, 0, 5)", 12);
        }
        new Subject().refuses("act(0, 0, 5)", 0);

        edge(32, "the body of its own KIND, or of the next KIND above that has one; super: from the KIND above the body's on.");
        int[][] due = {{5, 10, 5, 9}, {9, 18, 4, 18}, {7, -14, 7, -17}, {8, -16, 18, -22}, {9, -18, -5, -17}, {11, -22, 0, -37},
            {22, 44, 3, 37}, {12, -28, -7, -26}};
        for (int kind = 0; kind <= 7; kind++) {
            for (int act = 0; act <= 3; act++) {
                kinds().gives("act(" + kind + ", " + act + ", 5)", due[kind][act]);
            }
        }
    }

    private static void wrapping() {
        edge(32, "ACTS with x (an int that wraps)", "bodies 1, 20, 60, 70: buys");
        Subject x = kinds().gives("act(0, 0, MAX)", Integer.MAX_VALUE).gives("act(1, 0, MAX)", Integer.MIN_VALUE + 3);
        x.gives("act(1, 0, 2147483643)", Integer.MAX_VALUE).gives("act(1, 0, 2147483644)", Integer.MIN_VALUE);
        x.gives("act(2, 0, 2147483645)", Integer.MAX_VALUE).gives("act(2, 0, 2147483646)", Integer.MIN_VALUE);
        x.gives("act(5, 0, MAX)", Integer.MIN_VALUE + 5).gives("act(5, 0, 2147483641)", Integer.MAX_VALUE);
        x.gives("act(6, 0, 1073741817)", Integer.MAX_VALUE - 1).gives("act(6, 0, 1073741818)", Integer.MIN_VALUE);
        x.gives("act(6, 0, MIN)", 12);

        edge(32, "ACTS with x (an int that wraps)", "bodies 10, 30, 80: keeps");
        x.gives("act(0, 1, 1073741823)", Integer.MAX_VALUE - 1).gives("act(0, 1, 1073741824)", Integer.MIN_VALUE);
        x.gives("act(2, 1, 1073741821)", Integer.MIN_VALUE + 2).gives("act(2, 1, 1073741822)", Integer.MIN_VALUE);
        x.gives("act(0, 1, MIN)", 0);
        // BLACK, number 7: -((x + 7) * 2), and 5 - 9 by lends(2).
        x.gives("act(7, 1, 1073741816)", Integer.MAX_VALUE - 1).gives("act(7, 1, 1073741815)", Integer.MIN_VALUE);

        edge(32, "ACTS with x (an int that wraps)", "bodies 11, 40, 50: lends");
        x.gives("act(0, 2, MIN)", Integer.MIN_VALUE).gives("act(1, 2, MAX)", Integer.MAX_VALUE - 1);
        x.gives("act(3, 2, 715827881)", 2147483646).gives("act(3, 2, 715827880)", Integer.MIN_VALUE + 1);
        x.gives("act(4, 2, MIN)", Integer.MAX_VALUE - 1).gives("act(4, 2, -2147483646)", Integer.MIN_VALUE);

        edge(32, "ACTS with x (an int that wraps)", "bodies 2, 61, 81: tells");
        x.gives("act(0, 3, 1073741824)", Integer.MAX_VALUE).gives("act(2, 3, 1073741822)", Integer.MAX_VALUE - 2);
        x.gives("act(5, 3, 1073741818)", (Integer.MIN_VALUE - 12) ^ 5).gives("act(7, 3, 1073741817)", Integer.MAX_VALUE - 1);
    }

    private static void trace() {
        int[][] due = {{2, 10, 1, 11}, {2, 10, 20, 1, 11}, {2, 30, 10, 1, 11}, {2, 30, 10, 1, 40, 11},
            {2, 30, 10, 1, 50, 11, 1},
            {61, 2, 30, 10, 60, 1, 40, 11}, {2, 10, 70, 1, 11}, {81, 2, 80, 30, 10, 1, 50, 11, 1, 50, 11, 1}};

        edge(33, "THE TRACE: numbers of the bodies that ran in the latest act(), as they began; the first 24 are kept.");
        Subject x = kinds();
        for (int kind = 0; kind <= 7; kind++) {
            x.does("act(7, 3, 5)").does("act(" + kind + ", 3, 5)").gives("count(6)", due[kind].length);
            for (int i = 0; i < due[kind].length; i++) {
                x.gives("trace(" + i + ")", due[kind][i]);
            }
            x.gives("trace(" + due[kind].length + ")", BAD).gives("trace(11)", kind == 7 ? 1 : BAD);
        }

        edge(33, "BAD.");
        new Subject().refuses(BAD, "trace(0)", "trace(-1)", "trace(23)", "trace(24)");
        kinds().does("act(7, 3, 5)").gives("trace(0)", 81).gives("trace(11)", 1)
            .refuses(BAD, "trace(-1)", "trace(12)", "trace(23)", "trace(24)", "trace(MIN)", "trace(MAX)");
        kinds().does("act(0, 0, 5)").gives("trace(0)", 1).refuses(BAD, "trace(1)", "trace(-1)");
    }
}
