/** Boundaries of promises 1 to 7: THINGS and SORTS. */
final class ThingEdges extends Checks {
    static void run() {
        aNewObject();
        thing();
        thingsByNumber();
        thingsFromARow();
        mend();
        sort();
        purse();
        of();
    }

    private static void aNewObject() {
        edge(1, "No things, no people.");
        Subject x = new Subject();
        for (int what = 0; what <= 6; what++) {
            x.gives("count(" + what + ")", 0);
        }
        x.refuses(BAD, "of(0, 0)", "of(0, 10)", "mend(0, 0, 1)", "purse(0, 0, 1)", "worth(0, 1)", "basket(0, 0)");
        x.gives("wanted(-1, 1)", 0).gives("judge()", NOT).gives("free()", 1).gives("fewest()", 0).gives("loses(0)", 0);
        x.gives("cheap(0)", NOT).gives("wrong(0)", NOT).gives("undo()", STATE).gives("redo()", STATE);
    }

    private static void thing() {
        edge(2, "THINGS 0 .. 5, as they come");
        Subject x = new Subject();
        for (int i = 0; i <= 5; i++) {
            x.gives("thing(" + i + ", 0, 0)", i);
        }
        x.refuses("thing(6, 0, 0)", FULL).gives("count(0)", 6).gives("of(5, 0)", 5);

        edge(2, "HOW MANY there are (0 .. 999)");
        new Subject().gives("thing(0, 0, 0)", 0).gives("of(0, 0)", 0).gives("thing(999, 0, 0)", 1).gives("of(1, 0)", 999)
            .refuses(BAD, "thing(-1, 0, 0)", "thing(1000, 0, 0)", "thing(MIN, 0, 0)", "thing(MAX, 0, 0)");

        edge(2, "COIN (0 .. 99)");
        new Subject().gives("thing(0, 0, 0)", 0).gives("of(0, 1)", 0).gives("thing(0, 9900, 0)", 1).gives("of(1, 1)", 99)
            .refuses(BAD, "thing(0, -100, 0)", "thing(0, 10000, 0)", "thing(0, MIN, 0)", "thing(0, MAX, 0)");

        edge(2, "POINTS (0 .. 99)");
        new Subject().gives("thing(0, 0, 0)", 0).gives("of(0, 2)", 0).gives("thing(0, 99, 0)", 1).gives("of(1, 2)", 99)
            .gives("thing(0, 9999, 0)", 2).gives("of(2, 2)", 99).refuses("thing(0, -1, 0)", BAD);

        edge(2, "cp: 100 COIN and POINTS.");
        new Subject().does("thing(0, 99, 0)", "thing(0, 100, 0)", "thing(0, 101, 0)", "thing(0, 199, 0)")
            .gives("of(0, 1)", 0).gives("of(0, 2)", 99).gives("of(1, 1)", 1).gives("of(1, 2)", 0)
            .gives("of(2, 1)", 1).gives("of(2, 2)", 1).gives("of(3, 1)", 1).gives("of(3, 2)", 99);

        edge(2, "MADE at (0 .. 99, coin)");
        new Subject().gives("thing(0, 0, 0)", 0).gives("of(0, 3)", 0).gives("thing(0, 0, 99)", 1).gives("of(1, 3)", 99)
            .refuses(BAD, "thing(0, 0, -1)", "thing(0, 0, 100)", "thing(0, 0, MIN)", "thing(0, 0, MAX)");

        edge(2, "BAD, FULL.");
        Subject full = new Subject();
        for (int i = 0; i <= 4; i++) {
            full.does("thing(1, 0, 0)").refuses("thing(1000, 0, 0)", BAD);
        }
        full.does("thing(1, 0, 0)").refuses("thing(1, 0, 0)", FULL)
            .refuses(BAD, "thing(1000, 0, 0)", "thing(1, 10000, 0)", "thing(1, 0, 100)");
    }

    /** A row of shorts on shelf 2 with so many elements: 1, 2, 3 .. */
    private static Subject shorts(int n) {
        Subject x = new Subject("row(2, 1, " + n + ")");
        for (int i = 0; i < n; i++) {
            x.does("put(2, " + i + ", " + (i + 1) + ")");
        }
        return x;
    }

    private static void thingsByNumber() {
        edge(3, "from place i on, n (1 .. 6) of them", "n");
        shorts(32).refuses(BAD, "things(2, 0, 0)", "things(2, 0, 7)", "things(2, 0, MIN)", "things(2, 0, MAX)")
            .gives("things(2, 0, 1)", 1);
        shorts(32).gives("things(2, 0, 6)", 6).gives("of(0, 0)", 1).gives("of(5, 3)", 24);

        edge(3, "from place i on, n (1 .. 6) of them", "the place");
        shorts(8).refuses(0, "things(2, -1, 1)", "things(2, -4, 2)", "things(2, 8, 1)", "things(2, 9, 1)", "things(2, MIN, 6)",
            "things(2, MAX, 6)");
        shorts(8).gives("things(2, 0, 1)", 1).gives("of(0, 0)", 1).gives("things(2, 4, 1)", 1).gives("of(1, 0)", 5);

        edge(3, "BAD, -12 (no ROW of shorts; a SHELF that holds nothing is missing).", "the shelf");
        new Subject().refuses(BAD, "things(-1, 0, 1)", "things(6, 0, 1)", "things(MIN, 0, 1)", "things(MAX, 0, 1)");
        new Subject("row(0, 1, 4)", "row(5, 1, 4)").gives("things(0, 0, 1)", 1).gives("things(5, 0, 1)", 1);

        edge(3, "BAD, -12 (no ROW of shorts; a SHELF that holds nothing is missing).", "what it holds");
        Subject x = new Subject("row(0, 0, 4)", "row(1, 2, 4)", "row(2, 3, 4)", "row(3, 4, 4)", "body(0)", "keep(4, 0)");
        for (int shelf = 0; shelf <= 4; shelf++) {
            x.refuses(-12, "things(" + shelf + ", 0, 1)", "things(" + shelf + ", 9, 6)");
            x.refuses(BAD, "things(" + shelf + ", 0, 0)", "things(" + shelf + ", 0, 7)");
        }
        x.refuses("things(5, 0, 1)", 0);
    }

    private static void thingsFromARow() {
        edge(3, "it ends where the row is missing");
        new Subject().refuses(0, "things(0, 0, 1)", "things(5, 0, 6)");
        new Subject("row(0, 1, 4)", "keep(0, -1)").refuses("things(0, 0, 6)", 0);

        edge(3, "ends (within a four, too)");
        int[] came = {0, 0, 0, 0, 1, 1, 1, 1, 2, 2, 2, 2, 3};
        for (int n = 0; n < came.length; n++) {
            shorts(n).gives("things(2, 0, 6)", came[n]).gives("count(0)", came[n]);
        }
        shorts(8).gives("things(2, 5, 1)", 0).gives("things(2, 3, 6)", 1).gives("of(0, 0)", 4);
        shorts(60).gives("things(2, 57, 1)", 0).gives("things(2, 56, 2)", 1).gives("of(0, 3)", 60);

        edge(3, "one is not so");
        int[] most = {999, 99, 99, 99};
        for (int part = 0; part < 4; part++) {
            for (int v : new int[] {-1, most[part] + 1, Short.MIN_VALUE, Short.MAX_VALUE}) {
                Subject x = shorts(12).does("put(2, " + (4 + part) + ", " + v + ")").refuses("things(2, 4, 2)", 0);
                x.gives("things(2, 0, 3)", 1).gives("count(0)", 1);
            }
            shorts(12).does("put(2, " + (4 + part) + ", 0)", "put(2, " + (8 + part) + ", " + most[part] + ")")
                .gives("things(2, 0, 3)", 3).gives("of(1, " + part + ")", 0).gives("of(2, " + part + ")", most[part]);
        }

        edge(3, "or THINGS are FULL: those ahead came");
        Subject x = shorts(32).does("thing(1, 0, 0)", "thing(1, 0, 0)", "thing(1, 0, 0)", "thing(1, 0, 0)");
        x.gives("things(2, 0, 3)", 2).gives("of(5, 0)", 5).refuses(0, "things(2, 0, 1)", "things(2, 0, 6)");

        edge(3, "by fours HOW MANY, COIN, POINTS, MADE: n of them");
        shorts(9).gives("things(2, 1, 2)", 2).gives("of(0, 0)", 2).gives("of(0, 1)", 3).gives("of(0, 2)", 4)
            .gives("of(0, 3)", 5).gives("of(1, 0)", 6).gives("of(1, 3)", 9);
    }

    private static void mend() {
        edge(4, "HOW MANY (what 0), COIN (1), POINTS (2) becomes v: what it was.", "which of them");
        Subject x = new Subject("thing(1, 203, 4)");
        x.refuses(BAD, "mend(0, -1, 1)", "mend(0, 3, 1)", "mend(0, MIN, 1)", "mend(0, MAX, 1)");
        x.gives("mend(0, 0, 7)", 1).gives("mend(0, 1, 8)", 2).gives("mend(0, 2, 9)", 3);
        x.gives("of(0, 0)", 7).gives("of(0, 1)", 8).gives("of(0, 2)", 9).gives("of(0, 3)", 4);

        edge(4, "HOW MANY (what 0), COIN (1), POINTS (2) becomes v: what it was.", "the least and the greatest");
        int[] most = {999, 99, 99};
        for (int what = 0; what <= 2; what++) {
            Subject y = new Subject("thing(1, 203, 4)");
            String mend = "mend(0, " + what + ", ";
            y.refuses(BAD, mend + "-1)", mend + (most[what] + 1) + ")", mend + "MIN)", mend + "MAX)");
            y.gives(mend + "0)", what + 1).gives("of(0, " + what + ")", 0);
            y.gives(mend + most[what] + ")", 0).gives("of(0, " + what + ")", most[what]);
        }

        edge(4, "BAD.");
        new Subject().refuses(BAD, "mend(0, 0, 1)", "mend(-1, 0, 1)");
        Subject z = new Subject("thing(1, 203, 4)", "thing(5, 607, 8)");
        z.refuses(BAD, "mend(-1, 0, 1)", "mend(2, 0, 1)", "mend(MIN, 1, 1)", "mend(MAX, 2, 1)").gives("mend(1, 0, 1)", 5);
    }

    private static void sort() {
        edge(5, "SORTS of people 0 .. 4, as they come");
        Subject x = new Subject().wants("1");
        for (int i = 0; i <= 4; i++) {
            x.gives("sort(" + (i + 1) + ", 0, 0)", i);
        }
        x.refuses("sort(6, 0, 0)", FULL).gives("count(1)", 5).gives("of(4, 10)", 5);

        edge(5, "HEADS (1 .. 99)");
        new Subject().wants("1").gives("sort(1, 0, 0)", 0).gives("of(0, 10)", 1).gives("sort(99, 0, 0)", 1)
            .gives("of(1, 10)", 99)
            .refuses(BAD, "sort(0, 0, 0)", "sort(-1, 0, 0)", "sort(100, 0, 0)", "sort(MIN, 0, 0)", "sort(MAX, 0, 0)");

        edge(5, "a PURSE (0 .. 99 coin)");
        new Subject().wants("1").gives("sort(1, 0, 0)", 0).gives("of(0, 11)", 0).gives("sort(1, 9900, 0)", 1)
            .gives("of(1, 11)", 99).refuses(BAD, "sort(1, -100, 0)", "sort(1, 10000, 0)", "sort(1, MIN, 0)", "sort(1, MAX, 0)");

        edge(5, "a BOOK (0 .. 99 points)");
        new Subject().wants("1").gives("sort(1, 100, 0)", 0).gives("of(0, 12)", 0).gives("sort(1, 199, 0)", 1)
            .gives("of(1, 12)", 99).gives("of(0, 11)", 1).gives("of(1, 11)", 1).refuses("sort(1, -1, 0)", BAD);

        edge(5, "babies (0 .. 3: each 10 points more)");
        new Subject().wants("1").gives("sort(1, 5, 0)", 0).gives("of(0, 13)", 0).gives("of(0, 12)", 5)
            .gives("sort(1, 5, 10)", 1)
            .gives("of(1, 13)", 1).gives("of(1, 12)", 15).gives("sort(1, 5, 30)", 2).gives("of(2, 13)", 3)
            .gives("of(2, 12)", 35).refuses(BAD, "sort(1, 5, 40)", "sort(1, 5, -10)", "sort(1, 5, MIN)", "sort(1, 5, MAX)");

        edge(5, "bw: 10 babies and the WANT.");
        new Subject().refuses(BAD, "sort(1, 0, 0)", "sort(1, 0, 30)");
        new Subject().wants("1").gives("sort(1, 0, 0)", 0).refuses(BAD, "sort(1, 0, 1)", "sort(1, 0, 9)", "sort(1, 0, 11)",
            "sort(1, 0, -1)");
        new Subject().wants("1", "2", "3", "4").gives("sort(1, 0, 33)", 0).gives("of(0, 14)", 3).gives("of(0, 13)", 3)
            .refuses(BAD, "sort(1, 0, 4)", "sort(1, 0, 34)", "sort(1, 0, 39)");

        edge(5, "BAD, FULL.");
        Subject full = new Subject().wants("1");
        for (int i = 0; i <= 4; i++) {
            full.does("sort(1, 0, 0)");
        }
        full.refuses("sort(1, 0, 0)", FULL).refuses(BAD, "sort(0, 0, 0)", "sort(1, 10000, 0)", "sort(1, 0, 1)",
            "sort(1, 0, 40)");
    }

    private static void purse() {
        edge(6, "PURSE (what 0), BOOK (1) of a SORT becomes v: what it was.", "which of them");
        Subject x = new Subject().wants("1").does("sort(1, 203, 10)");
        x.refuses(BAD, "purse(0, -1, 1)", "purse(0, 2, 1)", "purse(0, MIN, 1)", "purse(0, MAX, 1)");
        x.gives("purse(0, 0, 7)", 2).gives("purse(0, 1, 8)", 3).gives("of(0, 11)", 7).gives("of(0, 12)", 18);

        edge(6, "PURSE (what 0), BOOK (1) of a SORT becomes v: what it was.", "the least and the greatest");
        for (int what = 0; what <= 1; what++) {
            Subject y = new Subject().wants("1").does("sort(1, 203, 0)");
            String purse = "purse(0, " + what + ", ";
            y.refuses(BAD, purse + "-1)", purse + "100)", purse + "MIN)", purse + "MAX)");
            y.gives(purse + "0)", what + 2).gives("of(0, " + (what + 11) + ")", 0);
            y.gives(purse + "99)", 0).gives("of(0, " + (what + 11) + ")", 99);
        }

        edge(6, "BAD.");
        new Subject().refuses(BAD, "purse(0, 0, 1)", "purse(-1, 0, 1)");
        Subject z = new Subject().wants("1").does("sort(1, 203, 0)", "sort(1, 405, 0)");
        z.refuses(BAD, "purse(-1, 0, 1)", "purse(2, 0, 1)", "purse(MIN, 1, 1)", "purse(MAX, 1, 1)").gives("purse(1, 0, 1)", 4);
    }

    private static void of() {
        Subject x = new Subject().wants("1", "2").does("thing(1, 203, 4)", "thing(5, 607, 8)", "sort(9, 1011, 21)");

        edge(7, "Of a THING (what 0 HOW MANY, 1 COIN, 2 POINTS, 3 MADE)");
        x.gives("of(1, 0)", 5).gives("of(1, 1)", 6).gives("of(1, 2)", 7).gives("of(1, 3)", 8);
        x.refuses(BAD, "of(0, -1)", "of(0, 4)", "of(0, MIN)", "of(0, MAX)");

        edge(7, "a SORT (10 HEADS, 11 PURSE, 12 POINTS IN ALL, 13 babies, 14 WANT)");
        x.gives("of(0, 10)", 9).gives("of(0, 11)", 10).gives("of(0, 12)", 31).gives("of(0, 13)", 2).gives("of(0, 14)", 1);
        x.refuses(BAD, "of(0, 9)", "of(0, 15)");

        edge(7, "BAD.");
        for (int what = 0; what <= 3; what++) {
            x.refuses(BAD, "of(-1, " + what + ")", "of(2, " + what + ")", "of(MAX, " + what + ")");
        }
        for (int what = 10; what <= 14; what++) {
            x.refuses(BAD, "of(-1, " + what + ")", "of(1, " + what + ")", "of(MIN, " + what + ")");
        }

        edge(7, "POINTS IN ALL of a SORT: BOOK and 10 times babies.");
        Subject y = new Subject().wants("1").does("sort(1, 0, 0)", "sort(1, 99, 30)");
        y.gives("of(0, 12)", 0).gives("of(1, 12)", 129).does("purse(0, 1, 99)", "purse(1, 1, 0)");
        y.gives("of(0, 12)", 99).gives("of(1, 12)", 30);
    }
}
