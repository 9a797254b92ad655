/** Boundaries of promises 25 to 30: MONTHS, FORESIGHT, CHEAP, WRONG, what is UNDONE and DONE AGAIN. */
final class MonthEdges extends Checks {
    static void run() {
        months();
        lapsed();
        foresight();
        cheap();
        wrong();
        wrongWay();
        undo();
        redo();
        forty();
    }

    private static void months() {
        edge(25, "MONTHS m (1 .. 12) of a SORT");
        Subject x = one("k=1", 5).does("thing(1, 3, 0)").gives("months(0, 1, 0, 0)", 1).gives("months(0, 12, 0, 0)", 12);
        x.gives("months(0, 11, 0, 0)", 11).gives("months(0, 1, 0, 1)", 2).gives("months(0, 12, 0, 1)", 24);
        x.refuses(BAD, "months(0, 0, 0, 0)", "months(0, 13, 0, 0)", "months(0, -1, 0, 1)", "months(0, MIN, 0, 0)",
            "months(0, MAX, 0, 0)");

        edge(25, "MONTHS m of a SORT with L (0 .. 99)");
        // Only the second one is wanted: two of them cost 198 points, and there are 99 each month.
        Subject y = new Subject().wants("k=2").does("sort(1, 69, 30)", "thing(1, 99, 0)").gives("months(0, 2, 99, 0)", 1);
        y.gives("months(0, 2, 98, 0)", 0).gives("months(0, 2, 0, 0)", 0).gives("months(0, 2, 99, 1)", 0);
        y.gives("months(0, 2, 98, 1)", 198).gives("months(0, 2, 0, 1)", 198);
        y.refuses(BAD, "months(0, 1, -1, 0)", "months(0, 1, 100, 0)", "months(0, 1, MIN, 1)", "months(0, 1, MAX, 1)");

        edge(25, "PURSE anew");
        one("1", 100).does("thing(1, 100, 0)").gives("months(0, 1, 0, 0)", 1).gives("months(0, 2, 0, 0)", 2)
            .gives("months(0, 12, 99, 0)", 12);

        edge(25, "WORTH (what 0), LAPSED (1). BAD.");
        x.refuses(BAD, "months(0, 1, 0, -1)", "months(0, 1, 0, 2)", "months(0, 1, 0, MIN)", "months(0, 1, 0, MAX)",
            "months(-1, 1, 0, 0)", "months(1, 1, 0, 0)", "months(MIN, 1, 0, 0)", "months(MAX, 1, 0, 1)");
        new Subject("thing(1, 0, 0)").refuses("months(0, 1, 0, 0)", BAD);
    }

    private static void lapsed() {
        edge(25, "but at most L points of that (the rest LAPSES)");
        // Two are left of 5; 6 pay two.
        Subject x = one("1", 5).does("thing(1, 3, 0)").gives("months(0, 2, 0, 0)", 2).gives("months(0, 2, 0, 1)", 2 + 2);
        x.gives("months(0, 2, 1, 0)", 3).gives("months(0, 2, 1, 1)", 1).gives("months(0, 2, 2, 0)", 3);
        x.gives("months(0, 2, 2, 1)", 1).gives("months(0, 2, 3, 0)", 3).gives("months(0, 2, 3, 1)", 1);
        // What was lent and is left again may be lent again: 5, 10, 15 of 16; then 20 less 16.
        Subject y = one("k=1", 5).does("thing(1, 16, 0)").gives("months(0, 3, 99, 0)", 0).gives("months(0, 3, 99, 1)", 15);
        y.gives("months(0, 4, 99, 0)", 1).gives("months(0, 4, 99, 1)", 4).gives("months(0, 4, 10, 0)", 0);
        y.gives("months(0, 4, 11, 0)", 1).gives("months(0, 4, 10, 1)", 20).gives("months(0, 4, 11, 1)", 4);

        edge(25, "(those left behind the last one lapse, too)");
        one("0", 7).gives("months(0, 1, 0, 1)", 7).gives("months(0, 1, 99, 1)", 7).gives("months(0, 2, 99, 1)", 14);
        one("0", 0).gives("months(0, 12, 99, 1)", 0);
        Subject most = new Subject().wants("0").does("sort(1, 99, 30)").gives("months(0, 12, 0, 1)", 1548);
        most.gives("months(0, 12, 99, 1)", 1548);
    }

    private static void foresight() {
        edge(26, "COIN of each at most PURSE");
        Subject x = one("1", 505).does("thing(1, 205, 0)").gives("foresight(0)", 0);
        x.does("mend(0, 2, 3)").gives("foresight(0)", 1).does("purse(0, 0, 4)").gives("foresight(0)", 1).does("purse(0, 0, 3)")
            .gives("foresight(0)", 0);

        edge(26, "POINTS of the first at most POINTS IN ALL, of both together at most twice that");
        Subject y = one("k=1", 5).does("thing(1, 5, 0)").gives("foresight(0)", 0).does("mend(0, 2, 6)")
            .gives("foresight(0)", 1);
        y.does("mend(0, 2, 10)").gives("foresight(0)", 1).does("mend(0, 2, 11)").gives("foresight(0)", 0);
        // 9 and 2 are more than 10; 8 and 2 are just so many.
        Subject z = one("k>1?0;t=0?9;1", 5).does("thing(1, 9, 0)", "thing(1, 2, 0)").gives("foresight(0)", 7);
        z.does("mend(0, 2, 8)").gives("foresight(0)", 8);

        edge(26, "less twice the WORTH of the BEST BASKET");
        one("0", 9999).does("thing(1, 0, 0)").gives("foresight(0)", 0);
        one("9", 9999).gives("foresight(0)", 0).does("thing(1, 0, 0)").gives("foresight(0)", 0).does("mend(0, 2, 66)")
            .gives("foresight(0)", 9);
        Subject most = new Subject().wants("999").does("sort(1, 9999, 30)");
        for (int i = 0; i <= 5; i++) {
            most.does("thing(1, 99, 0)");
        }
        most.gives("foresight(0)", 0).does("mend(0, 2, 86)").gives("foresight(0)", 999);
        // Three at 86 points are just twice 129; with one for 1 point they are more.
        most.does("mend(1, 2, 1)", "mend(1, 1, 99)").gives("foresight(0)", 0);

        edge(26, "BAD.");
        x.refuses(BAD, "foresight(-1)", "foresight(1)", "foresight(MIN)", "foresight(MAX)");
        new Subject("thing(1, 0, 0)").refuses("foresight(0)", BAD);
    }

    private static void cheap() {
        edge(27, "a THING that is MADE at most at COIN less m (0 .. 99)", "MADE");
        Subject x = new Subject("thing(0, 1000, 5)").gives("cheap(0)", 0).gives("cheap(4)", 0).gives("cheap(5)", 0);
        x.gives("cheap(6)", NOT).does("mend(0, 1, 5)").gives("cheap(0)", 0).gives("cheap(1)", NOT).does("mend(0, 1, 4)")
            .gives("cheap(0)", NOT);

        edge(27, "a THING that is MADE at most at COIN less m (0 .. 99)", "m");
        Subject y = new Subject("thing(0, 9900, 0)").gives("cheap(0)", 0).gives("cheap(99)", 0).does("mend(0, 1, 98)");
        y.gives("cheap(99)", NOT).gives("cheap(98)", 0);
        y.refuses(BAD, "cheap(-1)", "cheap(100)", "cheap(MIN)", "cheap(MAX)");

        edge(27, "with the least POINTS (of like ones the least)");
        Subject z = new Subject("thing(0, 109, 0)", "thing(0, 108, 0)", "thing(0, 108, 0)", "thing(0, 109, 0)")
            .gives("cheap(0)", 1);
        z.does("mend(2, 2, 7)").gives("cheap(0)", 2).does("mend(1, 1, 0)", "mend(2, 2, 99)").gives("cheap(1)", 0);
        z.does("mend(3, 2, 0)").gives("cheap(1)", 3).does("mend(0, 2, 0)").gives("cheap(1)", 0);

        edge(27, "the sort that is made for its points; NOT.");
        new Subject("thing(9, 1000, 11)", "thing(9, 2000, 21)").gives("cheap(0)", NOT).does("mend(1, 1, 21)")
            .gives("cheap(0)", 1);

        edge(27, "BAD; NOT.");
        new Subject().gives("cheap(0)", NOT).gives("cheap(99)", NOT).refuses(BAD, "cheap(-1)", "cheap(100)");
    }

    private static void wrong() {
        String sentence = "(cut; of those with HOW MANY above 0; of like ones the first)";
        edge(28, sentence, "cut");
        Subject x = new Subject().wants("k=1").does("thing(999, 0, 0)", "sort(1, 0, 0)").gives("wrong(1)", 998);
        x.does("thing(3, 0, 0)").gives("wrong(1)", 998).does("mend(0, 0, 1)").gives("wrong(0)", 1).gives("wrong(1)", 666);
        // 997000 by 998 and 998000 by 999 are cut to the same.
        x.does("mend(0, 0, 998)", "mend(1, 0, 999)").gives("wrong(0)", 0).gives("wrong(1)", 998);

        edge(28, sentence, "HOW MANY above 0");
        Subject y = new Subject().wants("1").does("thing(0, 0, 0)", "thing(1, 99, 0)", "sort(99, 0, 0)").gives("wrong(0)", 1);
        y.gives("wrong(1)", 1000).does("mend(0, 0, 1)").gives("wrong(0)", 0).gives("wrong(1)", 296000);
        Subject most = new Subject().wants("1").does("thing(1, 0, 0)");
        for (int i = 0; i <= 4; i++) {
            most.does("sort(99, 0, 0)");
        }
        most.gives("wrong(1)", 1484000);

        edge(28, sentence, "of like ones the first");
        new Subject("thing(0, 0, 0)", "thing(5, 0, 0)", "thing(9, 0, 0)").gives("wrong(0)", 1).gives("wrong(1)", 1000);
        new Subject().wants("k=1").does("thing(1, 0, 0)", "thing(1, 0, 0)", "sort(1, 0, 0)").gives("wrong(0)", 0)
            .gives("wrong(1)", 0);
    }

    private static void wrongWay() {
        edge(28, "which way its POINTS should go (1, -1, 0)");
        Subject x = new Subject().wants("k=1").does("thing(4, 50, 0)", "sort(4, 99, 0)").gives("wrong(2)", 0)
            .gives("wrong(1)", 0);
        x.does("mend(0, 0, 3)").gives("wrong(2)", 1).gives("wrong(1)", 333).does("mend(0, 0, 5)").gives("wrong(2)", -1);
        x.gives("wrong(1)", 200).gives("wrong(0)", 0);

        edge(28, "VOID: BAD; NOT: no THING with HOW MANY above 0.");
        x.refuses(VOID, "wrong(-1)", "wrong(3)", "wrong(MIN)", "wrong(MAX)");
        for (Subject none : new Subject[] {new Subject(), new Subject("thing(0, 0, 0)", "thing(0, 5, 0)")}) {
            none.gives("wrong(0)", NOT).gives("wrong(1)", NOT).gives("wrong(2)", NOT).refuses(VOID, "wrong(-1)", "wrong(3)");
        }
        new Subject("thing(0, 0, 0)", "thing(1, 0, 0)").gives("wrong(0)", 1).gives("wrong(2)", -1);
    }

    private static Subject changeable() {
        return new Subject().wants("1").does("thing(10, 2030, 40)", "sort(1, 5060, 0)");
    }

    private static void undo() {
        edge(29, "telling the same number is none");
        changeable().gives("mend(0, 0, 10)", 10).gives("mend(0, 1, 20)", 20).gives("mend(0, 2, 30)", 30)
            .gives("purse(0, 0, 50)", 50)
            .gives("purse(0, 1, 60)", 60).gives("count(4)", 0).refuses("undo()", STATE);
        // Two are taken at any POINTS, so SET leaves them.
        changeable().gives("set(60)", 8).gives("count(4)", 0).gives("mend(0, 0, 11)", 10).gives("mend(0, 0, 11)", 11)
            .gives("count(4)", 1);

        edge(29, "CHANGES (POINTS, COIN, HOW MANY, BOOKS, PURSES; telling the same number is none) can be UNDONE, the latest first");
        Subject x = changeable().does("mend(0, 0, 11)", "mend(0, 1, 21)", "mend(0, 2, 31)", "purse(0, 0, 51)",
            "purse(0, 1, 61)");
        x.gives("undo()", 4).gives("of(0, 12)", 60).gives("of(0, 11)", 51).gives("undo()", 3).gives("of(0, 11)", 50);
        x.gives("of(0, 2)", 31).gives("undo()", 2).gives("of(0, 2)", 30).gives("of(0, 1)", 21).gives("undo()", 1);
        x.gives("of(0, 1)", 20).gives("of(0, 0)", 11).gives("undo()", 0).gives("of(0, 0)", 10).refuses("undo()", STATE);

        edge(29, "UNDONE: how many may still be. STATE: none.");
        new Subject().refuses("undo()", STATE);
        changeable().does("tell(0, 1)", "feed(1, 49)", "want()", "body(0)", "row(0, 1, 4)").refuses("undo()", STATE)
            .does("mend(0, 0, 0)").gives("undo()", 0).refuses("undo()", STATE);
    }

    private static void redo() {
        edge(30, "DONE AGAIN (as long as no other came behind)");
        Subject x = changeable().does("mend(0, 0, 11)", "mend(0, 0, 12)", "undo()", "undo()").gives("redo()", 1)
            .gives("of(0, 0)", 11).gives("redo()", 0).gives("of(0, 0)", 12).refuses("redo()", STATE);
        x.does("undo()", "mend(0, 0, 11)").gives("redo()", 0).gives("of(0, 0)", 12);
        x.does("undo()", "mend(0, 1, 99)").refuses("redo()", STATE).gives("count(4)", 2).gives("of(0, 0)", 11);
        String[] others = {"mend(0, 0, 77)", "mend(0, 1, 77)", "mend(0, 2, 77)", "purse(0, 0, 77)", "purse(0, 1, 77)"};
        for (String other : others) {
            changeable().does("mend(0, 0, 11)", "undo()", other).refuses("redo()", STATE).gives("count(4)", 1);
        }
        String[] none = {"mend(0, 0, 10)", "purse(0, 1, 60)", "tell(0, 2)", "thing(1, 1, 1)", "sort(1, 1, 0)",
            "mend(0, 0, 1000)",
            "purse(0, 0, -1)", "set(0)", "set(1)"};
        for (String same : none) {
            changeable().does("mend(0, 0, 11)", "undo()", same).gives("redo()", 0).gives("of(0, 0)", 11);
        }
        new Subject().wants("1").does("sort(10, 6, 0)", "thing(15, 2, 0)", "mend(0, 0, 14)", "undo()", "set(1)")
            .refuses("redo()", STATE).gives("count(4)", 1).gives("of(0, 2)", 3);

        edge(30, "DONE AGAIN: how many may still be. STATE: none.");
        new Subject().refuses("redo()", STATE);
        changeable().does("mend(0, 0, 0)").refuses("redo()", STATE).does("undo()").gives("redo()", 0).refuses("redo()", STATE);
    }

    private static void forty() {
        edge(29, "40 at most are kept.");
        Subject x = changeable();
        for (int i = 1; i <= 40; i++) {
            x.does("mend(0, 0, " + (100 + i) + ")").gives("count(4)", i);
        }
        Subject y = changeable();
        for (int i = 1; i <= 41; i++) {
            y.does("mend(0, 0, " + (100 + i) + ")");
        }
        for (int left = 39; left >= 0; left--) {
            x.gives("undo()", left).gives("of(0, 0)", left == 0 ? 10 : 100 + left);
            y.gives("undo()", left).gives("of(0, 0)", 101 + left);
        }
        x.refuses("undo()", STATE);
        y.refuses("undo()", STATE);
        for (int left = 39; left >= 0; left--) {
            x.gives("redo()", left).gives("of(0, 0)", 140 - left);
            y.gives("redo()", left).gives("of(0, 0)", 141 - left);
        }
        x.refuses("redo()", STATE);
        y.refuses("redo()", STATE).does("purse(0, 0, 1)").gives("count(4)", 40).does("undo()").gives("count(4)", 39);
        y.gives("of(0, 11)", 50).gives("of(0, 0)", 141);
        fortyOfAll();
    }

    private static void fortyOfAll() {
        edge(29, "40 at most are kept.", "of each its own number");
        Subject x = changeable().does("thing(10, 2030, 40)", "sort(1, 5060, 0)");
        String[] ways = {"mend(1, 0, ", "mend(0, 1, ", "mend(1, 2, ", "purse(1, 0, ", "purse(0, 1, "};
        String[] looks = {"of(1, 0)", "of(0, 1)", "of(1, 2)", "of(1, 11)", "of(0, 12)"};
        for (int i = 0; i < 43; i++) {
            x.does(ways[i % 5] + (i + 1) + ")");
        }
        for (int left = 39; left >= 5; left--) {
            int i = left + 3;
            x.gives(looks[i % 5], i + 1).gives("undo()", left).gives(looks[i % 5], i - 4);
        }
        x.does("undo()", "undo()", "undo()").gives("undo()", 1).gives("undo()", 0).refuses("undo()", STATE);
        x.gives("of(1, 0)", 1).gives("of(0, 1)", 2).gives("of(1, 2)", 3).gives("of(1, 11)", 50).gives("of(0, 12)", 60);
        x.gives("of(0, 0)", 10).gives("of(1, 1)", 20).gives("of(0, 2)", 30).gives("of(0, 11)", 50).gives("of(1, 12)", 60);
        for (int left = 39; left >= 0; left--) {
            x.gives("redo()", left);
        }
        x.gives("of(1, 0)", 41).gives("of(0, 1)", 42).gives("of(1, 2)", 43).gives("of(1, 11)", 39).gives("of(0, 12)", 40);
    }
}
