/** Boundaries of promises 11 to 17: the BEST BASKET, WANTED, POINTS FOUND, told BASKETS. */
final class BasketEdges extends Checks {
    static void run() {
        threeOfEach();
        mayBeBought();
        likeOnes();
        basket();
        wanted();
        led();
        rounds();
        steps();
        theirEnd();
        leastBoth();
        set();
        tell();
        judge();
        judgeFirst();
    }

    private static void threeOfEach() {
        edge(11, "A BASKET: of each THING 0 .. 3");
        one("1", 1, 9999).does("thing(9, 0, 0)").gives("basket(0, 0)", 3).gives("basket(0, 1)", 3);
        one("0", 1, 9999).does("thing(9, 0, 0)").gives("basket(0, 0)", 0).gives("basket(0, 1)", 0);
        one("k<3", 1, 9999).does("thing(9, 0, 0)").gives("basket(0, 0)", 2);
        Subject six = one("999", 1, 9999);
        for (int i = 0; i <= 5; i++) {
            six.does("thing(0, 505, 0)");
        }
        six.gives("basket(0, 0)", 333333).gives("basket(0, 1)", 18 * 999).gives("basket(0, 2)", 90).gives("basket(0, 3)", 90);
    }

    private static void mayBeBought() {
        String sentence = "it may be bought, if COIN of all is at most PURSE, and POINTS at most POINTS IN ALL.";
        edge(11, sentence, "COIN");
        one("k=1", 1, 800).does("thing(0, 300, 0)", "thing(0, 500, 0)").gives("basket(0, 0)", 11).gives("basket(0, 2)", 8)
            .does("purse(0, 0, 7)").gives("basket(0, 0)", 10).does("purse(0, 0, 3)").gives("basket(0, 0)", 10)
            .does("purse(0, 0, 2)").gives("basket(0, 0)", 0);
        one("k=1", 1, 9900).does("thing(0, 9900, 0)").gives("basket(0, 0)", 1).does("purse(0, 0, 98)").gives("basket(0, 0)", 0);

        edge(11, sentence, "POINTS");
        one("k=1", 1, 8).does("thing(0, 3, 0)", "thing(0, 5, 0)").gives("basket(0, 0)", 11).gives("basket(0, 3)", 8)
            .does("purse(0, 1, 7)").gives("basket(0, 0)", 10).does("purse(0, 1, 3)").gives("basket(0, 0)", 10)
            .does("purse(0, 1, 2)").gives("basket(0, 0)", 0);
        new Subject().wants("k=1").does("sort(1, 99, 30)", "thing(0, 99, 0)", "thing(0, 30, 0)").gives("basket(0, 0)", 11)
            .does("purse(0, 1, 98)").gives("basket(0, 0)", 1);

        edge(11, sentence, "a full purse of one buys nothing of the other");
        one("k=1", 1, 9900).does("thing(0, 1, 0)").gives("basket(0, 0)", 0);
        one("k=1", 1, 99).does("thing(0, 100, 0)").gives("basket(0, 0)", 0);
    }

    private static void likeOnes() {
        String sentence = "of like ones the least COIN, then the least POINTS, then the least as digits (decimal, one for each THING "
            + "there is, THING 0 the highest)";
        edge(11, "BEST BASKET of a SORT: the greatest WORTH of those that may be bought");
        one("3-k", 1, 202).does("thing(0, 101, 0)").gives("basket(0, 1)", 3).gives("basket(0, 0)", 2);
        one("10+t*0-(t=1)", 1, 101).does("thing(0, 101, 0)", "thing(0, 0, 0)").gives("basket(0, 1)", 37);
        one("t", 1, 101).does("thing(0, 0, 0)", "thing(0, 101, 0)").gives("basket(0, 0)", 1).gives("basket(0, 1)", 1);

        edge(11, sentence, "the least COIN, be its POINTS and digits more");
        one("k=1", 1, 309).does("thing(0, 205, 0)", "thing(0, 304, 0)").does("purse(0, 1, 8)").gives("basket(0, 0)", 10);
        one("k=1", 1, 309).does("thing(0, 304, 0)", "thing(0, 205, 0)").does("purse(0, 1, 8)").gives("basket(0, 0)", 1);

        edge(11, sentence, "then the least POINTS, be its digits more");
        one("k=1", 1, 308).does("thing(0, 204, 0)", "thing(0, 205, 0)").gives("basket(0, 0)", 10);
        one("k=1", 1, 308).does("thing(0, 205, 0)", "thing(0, 204, 0)").gives("basket(0, 0)", 1);

        edge(11, sentence, "then the least as digits");
        one("k=1", 1, 308).does("thing(0, 205, 0)", "thing(0, 205, 0)").gives("basket(0, 0)", 1);
        one("k=1", 1, 412).does("thing(0, 205, 0)", "thing(0, 205, 0)", "thing(0, 205, 0)").gives("basket(0, 0)", 11);
        one("0", 1, 9999).does("thing(0, 0, 0)", "thing(0, 0, 0)").gives("basket(0, 0)", 0);

        edge(11, sentence, "one digit for each THING there is");
        Subject x = one("(t=0)*k", 1, 0).gives("basket(0, 0)", 0);
        int digits = 3;
        for (int i = 0; i <= 5; i++) {
            x.does("thing(0, 0, 0)").gives("basket(0, 0)", digits);
            digits *= 10;
        }
    }

    private static void basket() {
        Subject x = one("(k=1)*5", 1, 304).gives("basket(0, 0)", 0).gives("basket(0, 1)", 0).gives("basket(0, 2)", 0)
            .gives("basket(0, 3)", 0).does("thing(0, 304, 0)");

        edge(11, "digits (what 0), WORTH (1), COIN (2), POINTS (3). BAD.", "what");
        x.gives("basket(0, 0)", 1).gives("basket(0, 1)", 5).gives("basket(0, 2)", 3).gives("basket(0, 3)", 4);
        x.refuses(BAD, "basket(0, -1)", "basket(0, 4)", "basket(0, MIN)", "basket(0, MAX)");

        edge(11, "digits (what 0), WORTH (1), COIN (2), POINTS (3). BAD.", "the SORT");
        x.refuses(BAD, "basket(-1, 0)", "basket(1, 0)", "basket(MIN, 1)", "basket(MAX, 3)");
        new Subject("thing(1, 0, 0)").refuses("basket(0, 0)", BAD);
    }

    private static void wanted() {
        edge(12, "WANTED of a THING: over all SORTS HEADS times how many are in the BEST BASKET.");
        new Subject("thing(5, 0, 0)").gives("wanted(0, 0)", 0);
        Subject most = new Subject().wants("1", "k=1", "0").does("thing(0, 0, 0)");
        int[] all = {297, 594, 891, 1188, 1485};
        for (int due : all) {
            most.does("sort(99, 0, 0)").gives("wanted(0, 0)", due).gives("wanted(0, 1)", -due);
        }
        Subject some = new Subject().wants("1", "k=1", "0").does("thing(0, 0, 0)", "sort(1, 0, 1)", "sort(7, 0, 2)",
            "sort(5, 0, 1)");
        some.gives("wanted(0, 0)", 6);

        edge(12, "OVER: HOW MANY less WANTED (above 0: HEAPS; below: GONE by so many).");
        Subject x = one("1", 2, 0).does("thing(7, 0, 0)");
        x.gives("wanted(0, 1)", 1).does("mend(0, 0, 6)").gives("wanted(0, 1)", 0).does("mend(0, 0, 5)")
            .gives("wanted(0, 1)", -1);
        x.does("mend(0, 0, 0)").gives("wanted(0, 1)", -6);
        new Subject("thing(999, 0, 0)").gives("wanted(0, 1)", 999);

        edge(12, "BOTH together: the sum of sizes of OVER.");
        one("t=0", 2, 0).does("thing(1, 0, 0)", "thing(5, 0, 0)").gives("wanted(0, 1)", -5).gives("wanted(1, 1)", 5)
            .gives("wanted(-1, 1)", 10);
        new Subject().gives("wanted(-1, 1)", 0);
        one("1", 2, 0).does("thing(6, 0, 0)").gives("wanted(-1, 1)", 0);

        edge(12, "of thing -1: BOTH together (1). VOID: BAD.");
        one("1", 2, 0).does("thing(6, 0, 0)", "thing(8, 0, 0)").gives("wanted(1, 1)", 2).gives("wanted(-1, 1)", 2)
            .refuses(VOID, "wanted(-1, 0)", "wanted(-1, 2)", "wanted(-1, -1)", "wanted(-2, 1)", "wanted(2, 1)", "wanted(2, 0)",
                "wanted(0, -1)", "wanted(0, 2)", "wanted(MIN, 0)", "wanted(MAX, 1)", "wanted(0, MIN)", "wanted(0, MAX)");
        new Subject().refuses(VOID, "wanted(0, 0)", "wanted(0, 1)", "wanted(-1, 0)");
    }

    private static void led() {
        edge(13, "LED: how many of a THING a SORT takes.");
        Subject x = new Subject().wants("k=1", "t=0", "0").does("thing(1, 0, 0)", "thing(1, 0, 0)", "sort(4, 0, 0)",
            "sort(99, 0, 1)",
            "sort(5, 0, 2)");
        x.gives("led(0, 0)", 4).gives("led(1, 0)", 4).gives("led(0, 1)", 297).gives("led(1, 1)", 0).gives("led(0, 2)", 0);
        x.gives("wanted(0, 0)", 301).gives("wanted(1, 0)", 4);

        edge(13, "BAD.");
        x.refuses(BAD, "led(-1, 0)", "led(2, 0)", "led(0, -1)", "led(0, 3)", "led(MIN, 0)", "led(0, MAX)");
        new Subject("thing(1, 0, 0)").refuses("led(0, 0)", BAD);
        one("1", 1, 0).refuses("led(0, 0)", BAD);
    }

    /** 10 heads with 6 points take three at 2, two at 3, one at 4 to 6 points; there are 15: they move in each round. */
    private static Subject restless() {
        return one("1", 10, 6).does("thing(15, 2, 0)");
    }

    private static void rounds() {
        edge(14, "POINTS FOUND: told rounds (1 .. 60)");
        restless().gives("found(1, -1)", 1).gives("found(2, -1)", 2).gives("found(59, -1)", 59).gives("found(60, -1)", 60);
        for (int what = -4; what <= 0; what++) {
            restless().refuses(BAD, "found(0, " + what + ")", "found(61, " + what + ")", "found(-1, " + what + ")",
                "found(MIN, " + what + ")", "found(MAX, " + what + ")");
        }

        edge(14, "POINTS of a THING then (0 ..). BAD (also rounds); (without THINGS all 0).", "what");
        Subject x = restless().does("thing(3, 5, 0)").gives("found(1, -4)", 1).gives("found(1, 0)", 3).gives("found(1, 1)", 4);
        x.refuses(BAD, "found(1, -5)", "found(1, 2)", "found(1, MIN)", "found(1, MAX)");

        edge(14, "POINTS of a THING then (0 ..). BAD (also rounds); (without THINGS all 0).", "without THINGS");
        for (Subject none : new Subject[] {new Subject(), one("1", 9, 9999)}) {
            for (int what = -4; what <= -1; what++) {
                none.gives("found(1, " + what + ")", 0).gives("found(60, " + what + ")", 0);
            }
            none.refuses(BAD, "found(1, -5)", "found(1, 0)", "found(0, -1)", "found(61, -1)");
        }
    }

    private static void steps() {
        edge(14, "in each, of all THINGS at once, by OVER");
        // THING 0 is worth 2, THING 1 is worth 1. At 1 point each both are taken of 2 points; both are GONE at once.
        one("k>1?0;2-t", 1, 2).does("thing(0, 1, 0)", "thing(0, 1, 0)").gives("found(1, 0)", 2).gives("found(1, 1)", 2);

        edge(14, "POINTS one more where it is below 0 (99 at most)");
        new Subject().wants("k=1").does("sort(1, 99, 30)", "thing(0, 97, 0)").gives("found(1, 0)", 98).gives("found(2, 0)", 99)
            .gives("found(3, 0)", 99).gives("found(60, -1)", 2).does("mend(0, 2, 99)").gives("found(60, 0)", 99)
            .gives("found(60, -1)", 0).gives("found(60, -2)", 1);

        edge(14, "one less where it is above 0 and POINTS are above 0");
        new Subject("thing(1, 2, 0)").gives("found(1, 0)", 1).gives("found(2, 0)", 0).gives("found(3, 0)", 0)
            .gives("found(60, -1)", 2).does("mend(0, 2, 0)").gives("found(60, 0)", 0).gives("found(60, -1)", 0);
        new Subject("thing(0, 2, 0)").gives("found(60, 0)", 2).gives("found(60, -1)", 0);
    }

    private static void theirEnd() {
        edge(14, "it ends, when no POINTS move, or the rounds are done.");
        Subject x = one("1", 10, 6).does("thing(10, 2, 0)");
        // 30, 20, then 10 of 10: at 4 points nothing moves any more.
        x.gives("found(1, 0)", 3).gives("found(2, 0)", 4).gives("found(3, 0)", 4).gives("found(60, 0)", 4);
        x.gives("found(1, -2)", 10).gives("found(2, -2)", 0).gives("found(60, -2)", 0);
        restless().gives("found(59, 0)", 3).gives("found(60, 0)", 4);

        edge(14, "In thought: how many rounds moved something");
        x.gives("found(1, -1)", 1).gives("found(2, -1)", 2).gives("found(3, -1)", 2).gives("found(60, -1)", 2);
        one("1", 1, 0).does("thing(3, 0, 0)").gives("found(60, -1)", 0);
        // THING 0 stays, THING 1 moves.
        new Subject("thing(1, 0, 0)", "thing(1, 5, 0)").gives("found(60, -1)", 5);
        for (int what = -4; what <= 0; what++) {
            restless().gives("found(60, " + what + ")", new int[] {1, 5, 5, 60, 4}[what + 4]).gives("of(0, 2)", 2)
                .gives("count(4)", 0).gives("undo()", STATE);
        }
    }

    private static void leastBoth() {
        edge(14, "the least BOTH met (the beginning counts) and in which round (0: the beginning; of like ones the first)",
            "the first");
        restless().gives("found(60, -3)", 5).gives("found(60, -4)", 1).gives("found(1, -4)", 1).gives("found(2, -4)", 1);

        edge(14, "the least BOTH met (the beginning counts) and in which round (0: the beginning; of like ones the first)",
            "round 0");
        // 15 of 20 are taken at 3 points; at 2 as many.. and at 1 and 0, too.
        new Subject("thing(20, 3, 0)").gives("found(60, -3)", 20).gives("found(60, -4)", 0).gives("found(60, -1)", 3);
        restless().does("mend(0, 2, 3)").gives("found(60, -3)", 5).gives("found(60, -4)", 0);

        edge(14, "the least BOTH met (the beginning counts) and in which round (0: the beginning; of like ones the first)",
            "the last");
        one("1", 10, 6).does("thing(10, 2, 0)").gives("found(1, -4)", 1).gives("found(1, -3)", 10).gives("found(2, -4)", 2)
            .gives("found(2, -3)", 0);
        Subject far = one("1", 1, 99).does("thing(0, 0, 0)").gives("found(60, -4)", 50).gives("found(60, -3)", 1);
        far.gives("found(50, -4)", 50).gives("found(49, -4)", 34).gives("found(49, -3)", 2).gives("found(33, -4)", 0);
    }

    private static void set() {
        String sentence = "SET: POINTS become those of the round with the least BOTH (CHANGES).";
        edge(15, sentence, "of the first such round");
        restless().gives("set(60)", 5).gives("of(0, 2)", 3).gives("count(4)", 1).gives("undo()", 0).gives("of(0, 2)", 2);

        edge(15, sentence, "of the last round");
        one("1", 10, 6).does("thing(10, 2, 0)").gives("set(2)", 0).gives("of(0, 2)", 4).gives("wanted(-1, 1)", 0);
        one("1", 10, 6).does("thing(10, 2, 0)").gives("set(1)", 10).gives("of(0, 2)", 3);

        edge(15, sentence, "of the beginning: no CHANGE");
        Subject x = restless().does("mend(0, 2, 3)", "mend(0, 1, 0)", "mend(0, 2, 9)", "undo()");
        x.refuses("set(60)", 5).gives("set(60)", 5).gives("count(4)", 1).gives("redo()", 0).gives("of(0, 2)", 9);

        edge(15, sentence, "one CHANGE for each THING that moved, THING 0 first");
        // Of THING 1 there are as many as are wanted; THINGS 0 and 2 are GONE at 0 points and all wanted at 2.
        Subject y = one("k=1", 4, 2).does("thing(0, 0, 0)", "thing(4, 0, 0)", "thing(0, 2, 0)").gives("found(60, -4)", 3);
        y.gives("set(60)", 0).gives("of(0, 2)", 3).gives("of(1, 2)", 0).gives("of(2, 2)", 3).gives("count(4)", 2);
        y.gives("undo()", 1).gives("of(0, 2)", 3).gives("of(2, 2)", 2).gives("undo()", 0).gives("of(0, 2)", 0);

        // All six are GONE at 0 points, and not wanted at 1.
        Subject six = one("k=1", 1, 0);
        for (int i = 0; i <= 5; i++) {
            six.does("thing(0, 0, 0)");
        }
        six.gives("set(60)", 0).gives("count(4)", 6).gives("of(0, 2)", 1).gives("of(5, 2)", 1);
        six.gives("undo()", 5).gives("of(5, 2)", 0).gives("of(4, 2)", 1).gives("undo()", 4).gives("of(4, 2)", 0);

        edge(15, "SET by so many rounds: BOTH then. BAD.");
        restless().refuses(BAD, "set(0)", "set(61)", "set(-1)", "set(MIN)", "set(MAX)").gives("set(1)", 5);
        new Subject().refuses("set(60)", 0).refuses(BAD, "set(0)", "set(61)");
    }

    private static void tell() {
        edge(16, "told BASKETS of SORTS (digits, THING 0 the highest; 0 at first)");
        Subject x = one("1", 1, 9900).does("sort(1, 0, 0)", "thing(9, 100, 0)", "thing(9, 0, 0)");
        x.gives("tell(0, 10)", 0).gives("tell(0, 3)", 10).gives("tell(1, 30)", 0).gives("tell(0, 0)", 3)
            .gives("tell(1, 0)", 30);

        edge(16, "BAD (a digit above 3, or of no THING).", "a digit");
        x.does("tell(0, 12)").refuses(BAD, "tell(0, 4)", "tell(0, 14)", "tell(0, 40)", "tell(0, 34)", "tell(0, 43)",
            "tell(0, 9)",
            "tell(0, 90)").gives("tell(0, 33)", 12).gives("tell(0, 0)", 33);

        edge(16, "BAD (a digit above 3, or of no THING).", "of no THING");
        x.refuses(BAD, "tell(0, 100)", "tell(0, 333)", "tell(0, 1000)", "tell(0, -1)", "tell(0, -10)", "tell(0, MIN)",
            "tell(0, MAX)");
        one("1", 1, 0).gives("tell(0, 0)", 0).refuses(BAD, "tell(0, 1)", "tell(0, 10)", "tell(0, -1)");
        Subject six = one("1", 1, 0).does("thing(1, 0, 0)", "thing(1, 0, 0)", "thing(1, 0, 0)", "thing(1, 0, 0)",
            "thing(1, 0, 0)");
        six.refuses(BAD, "tell(0, 100000)").does("thing(1, 0, 0)").gives("tell(0, 100000)", 0).gives("tell(0, 333333)", 100000);
        six.refuses(BAD, "tell(0, 1000000)", "tell(0, 400000)", "tell(0, 333334)", "tell(0, 1333333)");

        edge(16, "BAD (a digit above 3, or of no THING).", "no such SORT");
        x.refuses(BAD, "tell(-1, 0)", "tell(2, 0)", "tell(MIN, 0)", "tell(MAX, 0)");
        new Subject("thing(1, 0, 0)").refuses("tell(0, 0)", BAD);
    }

    private static void judge() {
        edge(17, "the first SORT whose BASKET may not be bought (10 and SORT)");
        Subject x = one("k=1", 1, 304).does("thing(9, 304, 0)", "tell(0, 1)").gives("judge()", NOT);
        x.does("purse(0, 0, 2)").gives("judge()", 10).does("purse(0, 0, 3)", "purse(0, 1, 3)").gives("judge()", 10);
        Subject babies = new Subject().wants("k=1").does("sort(1, 0, 30)", "thing(9, 30, 0)", "tell(0, 1)")
            .gives("judge()", NOT);
        babies.does("mend(0, 2, 31)").gives("judge()", 10);

        edge(17, "or that has a better one (WORTH less than that of its BEST: 20 and SORT)");
        one("k=1", 1, 0).does("thing(9, 0, 0)").gives("judge()", 20).does("tell(0, 1)").gives("judge()", NOT)
            .does("tell(0, 3)").gives("judge()", NOT);
        one("1+(k=1)*998", 1, 0).does("thing(9, 0, 0)", "tell(0, 2)").gives("judge()", 20).does("tell(0, 3)")
            .gives("judge()", NOT);
        one("0", 1, 0).does("thing(9, 0, 0)").gives("judge()", NOT);

        edge(17, "then the first THING of which more are told than there are (30 and THING); NOT.");
        Subject y = one("1", 4, 0).does("sort(5, 0, 0)", "thing(27, 0, 0)", "thing(27, 0, 0)", "tell(0, 33)", "tell(1, 33)");
        y.gives("judge()", NOT).does("mend(1, 0, 26)").gives("judge()", 31).does("mend(0, 0, 26)").gives("judge()", 30);
        y.does("mend(0, 0, 27)", "mend(1, 0, 27)").gives("judge()", NOT);
        one("0", 1, 0).does("thing(0, 0, 0)").gives("judge()", NOT).does("tell(0, 1)").gives("judge()", 30);

        edge(17, "NOT.");
        new Subject().gives("judge()", NOT).does("thing(0, 0, 0)").gives("judge()", NOT);
        one("1", 1, 0).gives("judge()", NOT);
    }

    private static void judgeFirst() {
        edge(17, "JUDGED: told BASKETS of SORTS", "the first of several");
        Subject x = new Subject().wants("k=1");
        for (int i = 0; i <= 5; i++) {
            x.does("thing(5, 101, 0)");
        }
        for (int i = 0; i <= 4; i++) {
            x.does("sort(1, 606, 0)", "tell(" + i + ", 111111)");
        }
        x.gives("judge()", NOT).does("mend(5, 0, 4)").gives("judge()", 35).does("mend(0, 0, 4)").gives("judge()", 30);
        x.does("tell(4, 111110)").gives("judge()", 24).does("purse(4, 0, 4)").gives("judge()", 14);
        x.does("tell(3, 111110)").gives("judge()", 23).does("purse(3, 1, 0)").gives("judge()", 13);
        x.does("tell(2, 0)").gives("judge()", 22).does("tell(0, 0)").gives("judge()", 20);
        // Both at once: it may not be bought, and there is a better one.
        x.does("tell(0, 3)", "mend(5, 2, 99)").gives("judge()", 10);
    }
}
