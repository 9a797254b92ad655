/** Boundaries that all promises share: the order of the answers, what a refused call changes, how many calls there are. */
final class AnswerEdges extends Checks {
    static void run() {
        count();
        oneNamedFirst();
        nothingChanges();
        theLastThing();
        voidIs();
        ownMemory();
        calls();
        everySentence();
    }

    private static void count() {
        edge(40, "0 THINGS, 1 SORTS, 2 WANTS, 3 bytes on THE TAPE, 4 changes that may be UNDONE, 5 PURSES that are kept, "
            + "6 bodies that ran in the latest act() (all, kept or not).", "empty and full");
        Subject x = new Subject();
        for (int what = 0; what <= 6; what++) {
            x.gives("count(" + what + ")", 0);
        }
        x.wants("1", "2", "3", "4");
        for (int i = 0; i <= 6; i++) {
            x.does("thing(1, 0, 0)", "sort(1, 0, 0)");
        }
        for (int i = 1; i <= 30; i++) {
            x.does("feed(4, 0)", "mend(0, 0, " + (i + 1) + ")", "mend(1, 0, " + (i + 1) + ")", "body(7)", "body(7)");
        }
        x.does("feed(1, 0)", "body(0)", "act(0, 3, 5)");
        int[] full = {6, 5, 4, 120, 40, 50, 12};
        for (int what = 0; what <= 6; what++) {
            x.gives("count(" + what + ")", full[what]);
        }

        edge(40, "BAD.");
        rich().refuses(BAD, "count(-1)", "count(7)", "count(MIN)", "count(MAX)");
    }

    /** Something of everything, with room for more of it. */
    private static Subject rich() {
        return new Subject().wants("9-k*3", "t+1").does("thing(9, 102, 1)", "thing(8, 203, 1)", "thing(7, 304, 1)",
            "sort(3, 1020, 10)", "sort(4, 2010, 1)", "tell(0, 101)", "tell(1, 20)", "body(7)", "body(4)", "keep(0, 1)",
            "row(1, 1, 6)", "put(1, 0, 5)", "put(1, 1, 6)", "put(1, 2, 7)", "put(1, 3, 8)", "put(1, 4, 9)", "row(2, 3, 3)",
            "put(2, 1, 77)", "row(3, 4, 2)", "put(3, 0, 1)", "row(4, 2, 0)", "mend(0, 0, 5)", "mend(1, 1, 6)", "mend(2, 2, 7)",
            "purse(0, 0, 19)", "purse(1, 1, 18)", "undo()", "undo()", "act(0, 3, 5)",
            "feed(3, " + ('k' | '+' << 8 | '7' << 16) + ")");
    }

    /** As much of everything as there may be. */
    private static Subject full() {
        Subject x = new Subject().wants("9-k*3", "t+1", "k=1", "5");
        for (int i = 0; i <= 5; i++) {
            x.does("thing(9, 102, 1)");
        }
        for (int i = 0; i <= 4; i++) {
            x.does("sort(3, 1020, 1" + i % 4 + ")", "tell(" + i + ", 100203)");
        }
        for (int i = 0; i <= 49; i++) {
            x.does("body(" + i % 8 + ")");
        }
        for (int i = 1; i <= 39; i++) {
            x.does("mend(0, 0, " + i + ")");
        }
        x.does("act(7, 3, 5)", "row(0, 1, 8)", "put(0, 0, 1)", "keep(1, 49)");
        for (int i = 1; i <= 30; i++) {
            x.does("feed(4, 825307441)");
        }
        return x;
    }

    private static void oneNamedFirst() {
        String sentence = "Answers, of several the one named first: BAD (-1): no such number, or it is not as said; NOT (-2): as told; "
            + "FULL (-3); BIG (-4); STATE (-5): as told; -11 to -14.";
        edge(0, sentence, "BAD ahead of FULL");
        Subject x = full();
        x.refuses(FULL, "thing(1, 0, 0)", "sort(1, 0, 0)", "feed(1, 49)", "want()", "body(0)");
        x.refuses(BAD, "thing(-1, 0, 0)", "sort(0, 0, 0)", "sort(1, 0, 4)", "feed(0, 49)", "feed(5, 49)", "body(8)");

        edge(0, sentence, "BAD ahead of NOT");
        new Subject().gives("cheap(0)", NOT).gives("wrong(0)", NOT).refuses("cheap(100)", BAD).refuses("wrong(3)", VOID);

        edge(0, sentence, "BAD ahead of -11 to -14, and these in their order");
        Subject y = rich();
        y.refuses(BAD, "things(2, 0, 7)", "row(6, 0, -1)", "row(0, 5, -1)", "put(6, -1, 1)", "shift(5, 9, 6, 9, 9)",
            "taken(5, 8)",
            "taken(1, 8)");
        y.refuses(-11, "put(5, -1, 1)", "shift(5, 9, 0, 9, 9)", "shift(0, 9, 5, 9, 9)", "taken(5, 0)");
        y.refuses(-12, "things(2, 9, 6)", "put(0, -1, 1)", "shift(0, 9, 1, 9, 9)", "shift(1, 9, 2, 9, 9)", "taken(1, 0)");
        y.refuses(-13, "put(1, -1, 1)", "shift(1, 9, 1, 9, 9)");
    }

    private static void nothingChanges() {
        edge(0, "What is answered so changes nothing.", "with room for more");
        rich().refuses(BAD, "thing(1000, 0, 0)", "things(1, 0, 0)", "mend(3, 0, 1)", "mend(0, 3, 1)", "mend(0, 0, 1000)",
            "sort(100, 0, 0)", "sort(1, 0, 2)", "purse(2, 0, 1)", "purse(0, 2, 1)", "purse(0, 0, 100)", "of(3, 0)",
            "feed(5, 49)",
            "worth(0, 0)", "basket(2, 0)", "led(3, 0)", "found(61, 0)", "found(9, 3)", "set(61)", "tell(0, 4)", "tell(0, 1000)",
            "tell(2, 0)", "changed(0, 100, 0)", "black(0, 99, 0)", "black(0, 100, 101)", "beside(0, 99)", "loses(901)",
            "least(3)",
            "months(0, 13, 0, 0)", "months(0, 1, 100, 0)", "foresight(2)", "cheap(100)", "body(8)", "trace(12)", "keep(6, 0)",
            "keep(1, 2)", "row(1, 5, 6)", "row(1, 1, 61)", "row(6, 1, 6)", "put(6, 0, 1)", "shift(6, 0, 1, 0, 1)",
            "taken(0, 8)",
            "count(7)");
        rich().refuses(VOID, "wanted(3, 0)", "wanted(-1, 0)", "wrong(3)").refuses(NOT, "cheap(99)");
        rich().refuses(-11, "put(5, 0, 1)", "shift(5, 0, 1, 0, 1)", "taken(5, 0)");
        rich().refuses(-12, "things(2, 0, 1)", "put(0, 0, 1)", "shift(1, 0, 2, 0, 1)", "taken(0, 3)", "taken(1, 0)");
        rich().refuses(-13, "put(1, 6, 1)", "shift(1, 0, 1, 1, 6)").refuses("row(1, 1, -1)", -14);
        rich().refuses(Long.MIN_VALUE, "element(6, 0)", "element(5, 0)", "element(0, 0)", "element(1, 6)");

        edge(0, "What is answered so changes nothing.", "with room for no more");
        full().refuses(FULL, "thing(1, 0, 0)", "sort(1, 0, 0)", "feed(1, 49)", "want()", "body(0)")
            .refuses("things(0, 0, 1)", 0);
        rich().does("undo()", "undo()", "undo()").refuses("undo()", STATE);
        rich().does("redo()", "redo()").refuses("redo()", STATE);

        edge(0, "What is answered so changes nothing.", "nor does what is only asked");
        String[] asked = {"of(0, 0)", "worth(0, 1)", "basket(0, 0)", "wanted(0, 1)", "wanted(-1, 1)", "led(0, 0)", "led(1, 0)",
            "led(2, 1)", "found(60, 0)", "found(60, -3)", "beside(1, 900)", "judge()", "changed(0, 9, 1)", "free()",
            "black(0, 109, 50)", "beside(0, 300)", "beside(0, 0)", "loses(300)", "loses(0)", "fewest()", "least(0)",
            "months(0, 12, 9, 1)", "foresight(0)", "cheap(0)", "wrong(1)", "trace(0)", "element(1, 0)", "taken(0, 0)",
            "count(0)"};
        for (String call : asked) {
            long due = Subject.answer(rich().object(), call);
            Subject x = rich().refuses(call, due);
            for (String next : asked) {
                x.does(call).gives(next, Subject.answer(rich().object(), next));
            }
        }
    }

    /** Of six THINGS the last alone is wanted, and costs something. */
    private static void theLastThing() {
        edge(2, "THINGS 0 .. 5, as they come", "the last one counts in each call");
        Subject x = new Subject().wants("(t=5)*9/k").does("sort(2, 1504, 0)");
        for (int i = 0; i <= 5; i++) {
            x.does("thing(5, " + (i == 5 ? 703 : 0) + ", 6)");
        }
        x.gives("worth(0, 51)", 9).gives("basket(0, 0)", 1).gives("basket(0, 2)", 7).gives("wanted(5, 1)", 3)
            .gives("led(5, 0)", 2);
        x.gives("tell(0, 3)", 0).gives("judge()", 10).gives("tell(0, 1)", 3).gives("judge()", NOT).does("mend(5, 0, 1)");
        x.gives("judge()", 35).does("mend(5, 0, 5)").gives("changed(0, 1, 0)", 9).does("purse(0, 0, 16)")
            .gives("changed(0, 1, 0)", 13);
        x.does("purse(0, 0, 15)").gives("black(0, 100, 0)", 9).does("purse(0, 0, 16)").gives("black(0, 100, 0)", 13);
        x.gives("beside(0, 100)", 13).gives("beside(0, 115)", 13).gives("beside(0, 200)", 9).gives("beside(0, 0)", 13);
        x.gives("loses(0)", 1).gives("loses(200)", 0).gives("free()", 2).gives("fewest()", 0).does("mend(5, 0, 2)");
        x.gives("fewest()", 32).gives("least(5)", 1).gives("least(4)", 0).gives("months(0, 2, 9, 0)", 18)
            .gives("foresight(0)", 0).does("purse(0, 1, 5)").gives("foresight(0)", 4);
        x.does("mend(5, 0, 1)").gives("cheap(1)", 5).gives("cheap(2)", NOT).gives("wrong(0)", 0).does("mend(0, 0, 0)");
        x.does("mend(5, 2, 0)").gives("wanted(5, 1)", -3).gives("wrong(0)", 5).gives("wrong(2)", 1).gives("found(3, 5)", 3)
            .gives("found(4, 5)", 4);
    }

    private static void voidIs() {
        edge(0, "VOID is -2000000000.");
        due("VOID", PointsForAll.VOID, -2000000000);
        new Subject().gives("wanted(0, 0)", -2000000000).gives("wrong(3)", -2000000000);
    }

    private static void ownMemory() {
        edge(0, "All memory is the class's own.");
        Subject first = full();
        Subject second = new Subject();
        first.does("act(7, 3, 5)", "mend(0, 2, 50)", "fewest()");
        second.gives("count(0)", 0).gives("count(3)", 0).gives("count(6)", 0).gives("undo()", STATE).gives("taken(1, 0)", -11);
        second.wants("k=2").does("thing(5, 0, 0)", "sort(1, 0, 0)", "row(0, 1, 8)");
        first.gives("worth(0, 11)", 6).gives("of(0, 2)", 50).gives("element(0, 0)", 1).gives("trace(0)", 81);
        second.gives("worth(0, 2)", 1).gives("element(0, 0)", 0).gives("trace(0)", BAD);
    }

    private static void calls() {
        edge(0, "An object is used for at most 512 calls after it has been made");
        Subject x = new Subject("thing(0, 0, 0)");
        for (int i = 2; i <= 511; i++) {
            x.gives("mend(0, 0, " + i + ")", i == 2 ? 0 : i - 1);
        }
        x.gives("count(4)", 40);
        Subject y = new Subject("body(7)", "row(0, 1, 4)");
        for (int i = 3; i <= 512; i++) {
            y.gives(i % 2 == 0 ? "act(0, 3, 5)" : "things(0, 0, 1)", i % 2 == 0 ? -10 : i <= 13 ? 1 : 0);
        }
    }

    private static void everySentence() {
        test("each place of the document that names a boundary stands in a sentence that a test holds");
        for (String left : Document.leftOut()) {
            so(left, false);
        }
    }
}
