/** Boundaries of promises 18 to 24: points CHANGED for coin, BLACK, BESIDE, LOSES, FEWEST, LEAST. */
final class ChangingEdges extends Checks {
    private static final String LIKE_WORTH = "Of BASKETS of like WORTH that which costs the least so (COIN and RATE times POINTS), "
        + "then the least POINTS, then the least as digits.";

    static void run() {
        changed();
        better();
        free();
        freeOfLikeWorth();
        black();
        blackPrice();
        beside();
        equalShares();
        loses();
        fewest();
        fewestOfLikeOnes();
        least();
    }

    private static void changed() {
        edge(18, "CHANGED at a RATE (coin for one point, 1 .. 99)");
        Subject x = one("k=1", 9900).does("thing(1, 1, 0)").gives("changed(0, 1, 0)", 1).gives("changed(0, 99, 0)", 1);
        x.does("purse(0, 0, 98)").gives("changed(0, 99, 0)", 0).gives("changed(0, 98, 0)", 1);
        x.refuses(BAD, "changed(0, 0, 0)", "changed(0, 100, 0)", "changed(0, -1, 0)", "changed(0, MIN, 0)",
            "changed(0, MAX, 0)");

        String sentence = "COIN and RATE times (POINTS less POINTS IN ALL) is at most PURSE.";
        edge(18, sentence, "points lack");
        Subject y = one("k=1", 905).does("thing(1, 507, 0)").gives("changed(0, 2, 0)", 1).gives("changed(0, 3, 0)", 0);
        y.does("purse(0, 0, 8)").gives("changed(0, 2, 0)", 0).gives("changed(0, 1, 0)", 1);
        y.does("purse(0, 0, 9)", "purse(0, 1, 4)").gives("changed(0, 2, 0)", 0).does("mend(0, 2, 6)")
            .gives("changed(0, 2, 0)", 1);

        edge(18, sentence, "points are left");
        Subject z = one("k=1", 309).does("thing(1, 507, 0)").gives("changed(0, 1, 0)", 1).does("purse(0, 0, 2)");
        z.gives("changed(0, 1, 0)", 0).gives("changed(0, 2, 0)", 1).does("purse(0, 0, 0)").gives("changed(0, 2, 0)", 0)
            .gives("changed(0, 3, 0)", 1);

        edge(18, sentence, "neither");
        Subject none = one("k=1", 507).does("thing(1, 507, 0)").gives("changed(0, 1, 0)", 1).gives("changed(0, 99, 0)", 1);
        none.does("purse(0, 0, 4)").gives("changed(0, 1, 0)", 0).gives("changed(0, 99, 0)", 0);
        Subject all = one("1", 9999).does("thing(1, 9999, 0)");
        all.gives("changed(0, 1, 0)", 1).gives("changed(0, 99, 0)", 1).gives("changed(0, 99, 1)", 0);
    }

    private static void better() {
        edge(18, "BETTER: WORTH so less WORTH of the BEST BASKET.");
        Subject x = one("9-k", 507).does("thing(1, 507, 0)").gives("changed(0, 1, 0)", 8).gives("changed(0, 1, 1)", 0);
        x.does("purse(0, 1, 14)", "purse(0, 0, 9)").gives("changed(0, 1, 1)", 0).does("purse(0, 1, 15)")
            .gives("changed(0, 1, 1)", 7);
        one("0", 0).gives("changed(0, 1, 1)", 0);

        edge(18, "WORTH (what 0), BETTER (1). BAD.");
        x.refuses(BAD, "changed(0, 1, -1)", "changed(0, 1, 2)", "changed(0, 1, MIN)", "changed(0, 1, MAX)", "changed(-1, 1, 0)",
            "changed(1, 1, 0)", "changed(MIN, 1, 1)", "changed(MAX, 1, 1)");
        new Subject("thing(1, 0, 0)").refuses("changed(0, 1, 0)", BAD);
    }

    private static void free() {
        edge(19, "FREE RATE: of 1 .. 99 the least");
        new Subject().gives("free()", 1);
        one("k=1", 3).does("thing(1, 3, 0)").gives("free()", 1);
        one("k=1", 9700).does("thing(1, 1, 0)").gives("free()", 98).does("purse(0, 0, 98)").gives("free()", 99);
        one("k=1", 300).does("thing(1, 2, 0)").gives("free()", 2);

        String sentence = "at which POINTS of all these (HEADS counted) are no more than POINTS IN ALL of all HEADS; NOT.";
        edge(19, sentence, "just as many, and one more");
        one("k=1", 107).does("thing(1, 7, 0)").gives("free()", 1).does("mend(0, 2, 8)").gives("free()", 2);

        edge(19, sentence, "HEADS");
        // SORT 0 buys 2 points where they cost 1, SORT 1 sells what it has.
        for (int heads = 1; heads <= 4; heads++) {
            for (int sellers = 1; sellers <= 9; sellers++) {
                new Subject().wants("k=1", "0").does("thing(1, 2, 0)", "sort(" + heads + ", 200, 0)",
                    "sort(" + sellers + ", 1, 1)")
                    .gives("free()", sellers >= 2 * heads ? 1 : 2);
            }
        }

        edge(19, "FREE RATE. NOT.");
        one("k=1", 9900).does("thing(1, 1, 0)").gives("free()", NOT).does("purse(0, 1, 1)").gives("free()", 1);
    }

    private static void freeOfLikeWorth() {
        edge(19, LIKE_WORTH, "the least cost, be its POINTS and its digits more");
        // At 1 THING 0 costs 4, THING 1 costs 5 with a point less: only THING 1 is within the BOOK.
        one("k=1&1", 401).does("thing(1, 202, 0)", "thing(1, 401, 0)").gives("changed(0, 1, 0)", 1).gives("free()", 2);

        edge(19, LIKE_WORTH, "of a like cost the least POINTS, be its digits more");
        // At 1 both cost 4; the book has 1 point.
        one("k=1", 301).does("thing(1, 301, 0)", "thing(1, 202, 0)").gives("free()", 1);
        one("k=1", 301).does("thing(1, 202, 0)", "thing(1, 301, 0)").gives("free()", 1);
    }

    private static void black() {
        edge(20, "rf: 100 RATE and FINE. BAD.", "RATE");
        Subject x = one("k=1", 9900).does("thing(1, 1, 0)").gives("black(0, 100, 0)", 1).gives("black(0, 9900, 0)", 1);
        x.does("purse(0, 0, 98)").gives("black(0, 9900, 0)", 0).gives("black(0, 9899, 0)", 1);
        x.refuses(BAD, "black(0, 99, 0)", "black(0, 0, 0)", "black(0, 10000, 0)", "black(0, -1, 0)", "black(0, MIN, 0)",
            "black(0, MAX, 0)");

        edge(20, "FINE (0 .. 99)");
        Subject y = one("k=1", 9900).does("thing(1, 1, 0)").gives("black(0, 9900, 100)", 1).gives("black(0, 9901, 100)", 0);
        y.gives("black(0, 199, 100)", 0).does("mend(0, 1, 0)", "mend(0, 2, 0)").gives("black(0, 9999, 100)", 1);
        one("k=1", 9900).does("thing(1, 1, 0)").gives("black(0, 198, 100)", 1).gives("black(0, 199, 100)", 0)
            .gives("black(0, 199, 99)", 0).gives("black(0, 199, 98)", 1);

        edge(20, "CAUGHT (0 .. 100 hundredths)");
        Subject z = one("k=1", 5000).does("thing(1, 1, 0)").gives("black(0, 199, 0)", 1).gives("black(0, 149, 100)", 1);
        z.gives("black(0, 150, 100)", 0).gives("black(0, 5099, 0)", 1).gives("black(0, 5001, 1)", 0)
            .gives("black(0, 5000, 100)", 1);
        z.refuses(BAD, "black(0, 100, -1)", "black(0, 100, 101)", "black(0, 100, MIN)", "black(0, 100, MAX)");

        edge(20, "rf: 100 RATE and FINE. BAD.", "the SORT");
        z.refuses(BAD, "black(-1, 100, 0)", "black(1, 100, 0)", "black(MIN, 100, 0)", "black(MAX, 100, 0)");
        new Subject("thing(1, 0, 0)").refuses("black(0, 100, 0)", BAD);
    }

    private static void blackPrice() {
        edge(20, "by 100 (up) each");
        // The point that lacks may cost 3, not 4.
        Subject x = one("k=1", 300).does("thing(1, 1, 0)");
        x.gives("black(0, 300, 0)", 1).gives("black(0, 300, 100)", 1).gives("black(0, 399, 0)", 1);
        x.gives("black(0, 301, 1)", 0).gives("black(0, 201, 1)", 1).gives("black(0, 299, 1)", 1).gives("black(0, 250, 2)", 1);
        x.gives("black(0, 251, 2)", 0).gives("black(0, 201, 100)", 1).gives("black(0, 202, 51)", 0)
            .gives("black(0, 202, 50)", 1);
        // Two points lack: each is rounded up by itself.
        Subject y = one("k=1", 400).does("thing(1, 2, 0)").gives("black(0, 110, 100)", 0).gives("black(0, 101, 1)", 1);
        y.does("purse(0, 0, 3)").gives("black(0, 101, 1)", 0).gives("black(0, 100, 0)", 1);

        edge(20, "and nothing is sold: the greatest WORTH so.");
        one("k=1", 499).does("thing(1, 500, 0)").gives("black(0, 100, 0)", 0).gives("changed(0, 1, 0)", 1).does("mend(0, 1, 4)")
            .gives("black(0, 100, 0)", 1);
        // What lacks, one coin for each point: none, one, two.
        Subject z = one("k=1", 505).does("thing(1, 505, 0)").gives("black(0, 100, 0)", 1).does("mend(0, 2, 6)");
        z.gives("black(0, 100, 0)", 0).does("mend(0, 1, 4)").gives("black(0, 100, 0)", 1).does("mend(0, 2, 7)")
            .gives("black(0, 100, 0)", 0);
    }

    private static void beside() {
        edge(21, "COIN of each THING is c hundredths of it, 100 .. 900, cut", "c");
        Subject x = one("k=1", 900).does("thing(1, 199, 0)").gives("beside(0, 100)", 1).gives("beside(0, 900)", 1);
        x.does("purse(0, 0, 8)").gives("beside(0, 900)", 0).gives("beside(0, 899)", 1).does("purse(0, 0, 0)")
            .gives("beside(0, 100)", 0);
        x.refuses(BAD, "beside(0, 99)", "beside(0, 901)", "beside(0, 1)", "beside(0, -1)", "beside(0, -100)", "beside(0, MIN)",
            "beside(0, MAX)");

        edge(21, "COIN of each THING is c hundredths of it, 100 .. 900, cut", "cut for each THING");
        Subject y = one("1", 900).does("thing(1, 300, 0)").gives("beside(0, 133)", 3).gives("beside(0, 134)", 2);
        y.gives("beside(0, 166)", 2).gives("beside(0, 167)", 1).does("mend(0, 1, 0)").gives("beside(0, 900)", 3);
        one("1", 9900).does("thing(1, 9900, 0)").gives("beside(0, 101)", 1).gives("beside(0, 102)", 0)
            .gives("beside(0, 900)", 0);

        edge(21, "the WORTH by COIN alone (POINTS cost nothing");
        one("1", 0).does("thing(1, 99, 0)").gives("beside(0, 100)", 3).gives("basket(0, 1)", 0);

        edge(21, "the greatest WORTH of BASKETS that PURSE pays so");
        one("k=1", 500).does("thing(1, 200, 0)", "thing(1, 300, 0)").gives("beside(0, 100)", 2).does("purse(0, 0, 4)")
            .gives("beside(0, 100)", 1);

        edge(21, "by COIN alone at c, or (c 0) EQUAL shares: WORTH. BAD.");
        Subject z = one("1", 0).does("thing(2, 100, 0)").gives("beside(0, 0)", 2).gives("beside(0, 100)", 0);
        z.refuses(BAD, "beside(-1, 0)", "beside(1, 0)", "beside(-1, 100)", "beside(1, 900)", "beside(MIN, 0)",
            "beside(MAX, 0)");
        new Subject("thing(1, 0, 0)").refuses(BAD, "beside(0, 0)", "beside(0, 100)");
    }

    private static void equalShares() {
        edge(21, "WORTH of the BASKET of each THING HOW MANY by all HEADS (cut), 3 at most.");
        Subject x = new Subject().wants("k*k").does("sort(4, 0, 0)", "sort(6, 0, 0)", "thing(0, 9999, 0)");
        int[][] due = {{0, 0}, {9, 0}, {10, 1}, {19, 1}, {20, 5}, {29, 5}, {30, 14}, {39, 14}, {40, 14}, {999, 14}};
        for (int[] one : due) {
            x.does("mend(0, 0, " + one[0] + ")").gives("beside(0, 0)", one[1]).gives("beside(1, 0)", one[1]);
        }
        one("1", 0).gives("beside(0, 0)", 0).does("thing(1, 0, 0)").gives("beside(0, 0)", 1);
        Subject most = new Subject().wants("1").does("thing(494, 0, 0)", "thing(495, 0, 0)");
        for (int i = 0; i <= 4; i++) {
            most.does("sort(99, 0, 0)");
        }
        most.gives("beside(4, 0)", 1).does("mend(0, 0, 990)", "mend(1, 0, 989)").gives("beside(4, 0)", 3);
    }

    private static void loses() {
        edge(22, "LOSES: SORTS (bits) whose BEST BASKET is worth less than that.");
        // The BEST BASKET is one for 2 points; by coin alone as many as PURSE pays.
        Subject x = one("1", 202).does("thing(0, 102, 0)").gives("basket(0, 1)", 1).gives("beside(0, 100)", 2)
            .gives("loses(100)", 1);
        x.gives("beside(0, 200)", 1).gives("loses(200)", 0).gives("beside(0, 300)", 0).gives("loses(300)", 0);
        x.gives("loses(0)", 0).does("mend(0, 0, 1)").gives("loses(0)", 0).does("mend(0, 0, 2)").gives("loses(0)", 1);

        edge(22, "LOSES by c (0: by EQUAL shares), as bits. BAD.", "the bits");
        Subject all = new Subject().wants("1").gives("loses(0)", 0).gives("loses(100)", 0).does("thing(999, 1, 0)");
        int[] bits = {1, 3, 7, 15, 31};
        for (int due : bits) {
            all.does("sort(1, 0, 0)").gives("loses(0)", due).gives("loses(100)", due).gives("loses(900)", due);
        }
        all.does("purse(0, 1, 3)", "purse(3, 1, 2)").gives("loses(0)", 30).does("purse(3, 1, 3)").gives("loses(0)", 22);

        edge(22, "LOSES by c (0: by EQUAL shares), as bits. BAD.", "c");
        x.refuses(BAD, "loses(-1)", "loses(1)", "loses(99)", "loses(901)", "loses(MIN)", "loses(MAX)");
        new Subject().refuses(BAD, "loses(99)", "loses(901)");
    }

    private static void fewest() {
        edge(23, "nothing is GONE (OVER 0 or more for all)");
        Subject x = one("k=1", 0).does("thing(1, 5, 0)").gives("fewest()", 0).does("mend(0, 0, 0)").gives("fewest()", 1);
        x.does("thing(1, 5, 0)").gives("fewest()", 1).does("mend(1, 0, 0)").gives("fewest()", 3);
        x.does("mend(0, 0, 999)").gives("fewest()", 2);

        edge(23, "sets of THINGS (bits) on POINTS (others cost 0 POINTS)");
        // With 5 points for two THINGS at 5 each both are wanted where one of them costs none.
        Subject y = one("k=1", 5).does("thing(1, 5, 0)", "thing(0, 5, 0)").gives("basket(0, 0)", 1).gives("fewest()", NOT);
        y.does("mend(1, 2, 6)").gives("fewest()", 2).does("mend(0, 2, 0)", "mend(1, 2, 5)").gives("fewest()", NOT);

        edge(23, "FEWEST, as bits. NOT.", "none and all");
        new Subject().gives("fewest()", 0);
        Subject six = one("k=1", 0).gives("fewest()", 0);
        int[] bits = {1, 3, 7, 15, 31, 63};
        for (int due : bits) {
            six.does("thing(0, 1, 0)").gives("fewest()", due);
        }
        six.gives("count(4)", 0).gives("of(5, 2)", 1);

        edge(23, "NOT: none.");
        six.does("purse(0, 1, 1)").gives("fewest()", NOT).does("purse(0, 1, 0)", "mend(5, 2, 0)").gives("fewest()", NOT);
    }

    private static void fewestOfLikeOnes() {
        edge(23, "of like ones the least as bits");
        Subject x = one("k=1", 99).does("thing(1, 99, 0)", "thing(1, 99, 0)").gives("fewest()", 0);
        x.does("purse(0, 1, 0)", "mend(0, 0, 0)").gives("fewest()", 1).does("mend(0, 0, 1)", "mend(1, 0, 0)")
            .gives("fewest()", 2);

        // The last is worth more than two of the first three: any of these may be the one that can not be had.
        Subject any = one("k>1?0;t<3?5;12", 1000).does("thing(1, 301, 0)", "thing(1, 301, 0)", "thing(0, 401, 0)",
            "thing(1, 1001, 0)").gives("fewest()", 1).does("mend(0, 2, 0)").gives("fewest()", 2);
        any.does("mend(1, 2, 0)").gives("fewest()", 4).does("mend(2, 2, 0)").gives("fewest()", NOT);

        edge(23, "the one with the fewest such that");
        // PURSE pays the first three, or the last alone; THING 2 is GONE where it is taken. Without THING 2 two are
        // taken; without THINGS 0 and 1 the last, too, but these are more.
        Subject one = one("k>1?0;t<3?5;8", 1000).does("thing(1, 301, 0)", "thing(1, 301, 0)", "thing(0, 401, 0)",
            "thing(1, 1001, 0)").gives("fewest()", 4).does("mend(2, 2, 0)").gives("fewest()", 3);
        one.does("mend(1, 2, 0)").gives("fewest()", NOT);
        // PURSE pays one. THING 2 is dear to it; on POINTS it can not be had, and THING 0 is taken in its place.
        Subject y = one("k>1?0;1+t", 100).does("thing(1, 101, 0)", "thing(1, 101, 0)", "thing(0, 101, 0)").gives("fewest()", 4);
        y.does("mend(1, 0, 0)").gives("fewest()", 6).does("mend(0, 0, 0)").gives("fewest()", 7);
    }

    private static void least() {
        edge(24, "LEAST of a THING: SORTS (bits) whose BEST BASKET has at least one of a THING.");
        Subject x = new Subject().wants("k=1", "1", "0").does("thing(1, 1, 0)").gives("least(0)", 0);
        int[] bits = {1, 3, 7, 15, 31};
        for (int due : bits) {
            x.does("sort(1, 1, 0)").gives("least(0)", due);
        }
        x.does("purse(0, 1, 0)").gives("least(0)", 30).does("purse(4, 1, 0)").gives("least(0)", 14);
        new Subject().wants("1", "0").does("thing(1, 0, 0)", "sort(1, 0, 1)", "sort(1, 0, 0)").gives("least(0)", 2);

        edge(24, "BAD.");
        x.refuses(BAD, "least(-1)", "least(1)", "least(MIN)", "least(MAX)");
        new Subject().refuses(BAD, "least(0)", "least(-1)");
    }
}
