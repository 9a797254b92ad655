/** Promises 11 to 17: the BEST BASKET, what is WANTED, POINTS FOUND, told BASKETS. */
final class BasketsTest extends Checks {
    static void run() {
        basket();
        likeBaskets();
        wanted();
        led();
        found();
        foundOfLikeOnes();
        set();
        tell();
        judge();
    }

    private static void basket() {
        test("promise 11: basket");
        // WORTHS 50/k for THING 0 (5 coin, 3 points), 40/k for THING 1 (2 coin, 10 points).
        PointsForAll x = withWants("(50-t*10)/k");
        x.sort(2, 1220, 0);
        due("without things", x.basket(0, 0), 0);
        due("without things", x.basket(0, 1), 0);
        x.thing(9, 503, 0);
        x.thing(9, 210, 0);
        // 11: 7 coin, 13 points, worth 90; 21: 12 coin, 16 points, worth 115; 12: 9 coin, 23 points: too many.
        due("digits", x.basket(0, 0), 21);
        due("worth", x.basket(0, 1), 115);
        due("coin", x.basket(0, 2), 12);
        due("points", x.basket(0, 3), 16);
        x.purse(0, 0, 11);
        due("one coin less", x.basket(0, 0), 11);
        x.purse(0, 0, 12);
        x.purse(0, 1, 16);
        due("just the points", x.basket(0, 0), 21);
        x.purse(0, 1, 15);
        due("one point less", x.basket(0, 0), 11);
        x.purse(0, 0, 0);
        due("nothing in the purse", x.basket(0, 0), 0);
        due("its worth", x.basket(0, 1), 0);
        due("no such sort", x.basket(1, 0), BAD);
        due("sort below", x.basket(-1, 0), BAD);
        due("what below", x.basket(0, -1), BAD);
        due("what above", x.basket(0, 4), BAD);
        PointsForAll y = withWants("1");
        y.sort(1, 0, 10);
        y.thing(0, 5, 0);
        due("babies' points", y.basket(0, 0), 2);
    }

    private static void likeBaskets() {
        test("promise 11: of like ones");
        PointsForAll x = withWants("k=1", "0");
        x.thing(0, 203, 0);
        x.thing(0, 103, 0);
        x.sort(1, 212, 0);
        due("the least coin", x.basket(0, 0), 1);
        x.mend(0, 1, 1);
        x.mend(0, 2, 2);
        x.mend(1, 2, 12);
        x.purse(0, 0, 1);
        due("then the least points", x.basket(0, 0), 10);
        x.mend(1, 2, 2);
        due("then the least as digits", x.basket(0, 0), 1);
        x.sort(1, 9999, 1);
        due("worth nothing: nothing", x.basket(1, 0), 0);
        x.mend(0, 1, 0);
        x.mend(0, 2, 0);
        due("worth nothing, for nothing: nothing", x.basket(1, 0), 0);
        PointsForAll y = withWants("1");
        y.sort(1, 9900, 0);
        for (int i = 0; i < 6; i++) {
            y.thing(0, 0, 0);
        }
        due("three of each", y.basket(0, 0), 333333);
        due("their worth", y.basket(0, 1), 18);
        PointsForAll z = withWants("4-k");
        z.thing(0, 200, 0);
        z.thing(0, 200, 0);
        z.sort(1, 600, 0);
        // 12 and 21 are worth 8 each, at the same coin.
        due("12 ahead of 21", z.basket(0, 0), 12);
    }

    /** Two sorts: 3 heads that take two of THING 0, 4 heads that take one of each. */
    private static PointsForAll market() {
        PointsForAll x = withWants("t=0&k<3", "k=1");
        x.thing(10, 0, 0);
        x.thing(5, 1, 0);
        x.sort(3, 0, 0);
        x.sort(4, 1, 1);
        return x;
    }

    private static void wanted() {
        test("promise 12: wanted");
        PointsForAll x = market();
        due("of THING 0", x.wanted(0, 0), 10);
        due("of THING 1", x.wanted(1, 0), 4);
        due("just so many", x.wanted(0, 1), 0);
        due("heaps", x.wanted(1, 1), 1);
        x.mend(0, 0, 3);
        due("gone", x.wanted(0, 1), -7);
        due("both together", x.wanted(-1, 1), 8);
        due("both has no WANTED", x.wanted(-1, 0), VOID);
        due("no such thing", x.wanted(2, 0), VOID);
        due("thing below", x.wanted(-2, 1), VOID);
        due("what below", x.wanted(0, -1), VOID);
        due("what above", x.wanted(0, 2), VOID);
        due("what above", x.wanted(-1, 2), VOID);
    }

    private static void led() {
        test("promise 13: led");
        PointsForAll x = market();
        due("SORT 0 of THING 0", x.led(0, 0), 6);
        due("SORT 1 of THING 0", x.led(0, 1), 4);
        due("SORT 0 of THING 1", x.led(1, 0), 0);
        due("SORT 1 of THING 1", x.led(1, 1), 4);
        due("no such thing", x.led(2, 0), BAD);
        due("thing below", x.led(-1, 0), BAD);
        due("no such sort", x.led(0, 2), BAD);
        due("sort below", x.led(0, -1), BAD);
    }

    private static void found() {
        test("promise 14: found");
        PointsForAll x = new PointsForAll();
        due("rounds below", x.found(0, -1), BAD);
        due("rounds above", x.found(61, -1), BAD);
        for (int what = -4; what < 0; what++) {
            due("without things", x.found(60, what), 0);
        }
        due("no such thing", x.found(60, 0), BAD);
        due("what below", x.found(60, -5), BAD);
        // One sort of 10 heads with 6 points; 5 things: each takes three at 2 points, one at 4 to 6, none at 7.
        PointsForAll y = withWants("1");
        y.sort(10, 6, 0);
        y.thing(15, 2, 0);
        due("at 3 points two each", y.found(1, -2), 5);
        due("one moved", y.found(1, -1), 1);
        due("POINTS then", y.found(1, 0), 3);
        due("and at 4 points one", y.found(2, -2), 5);
        due("back at 3, by heaps", y.found(3, 0), 3);
        due("all moved", y.found(60, -1), 60);
        due("the least", y.found(60, -3), 5);
        due("its round, the first", y.found(60, -4), 1);
        due("in thought alone", y.of(0, 2), 2);
        due("nothing to undo", y.undo(), STATE);
        y.mend(0, 0, 20);
        due("it ends when no POINTS move", y.found(60, -1), 1);
        due("BOTH 0", y.found(60, -2), 0);
        due("POINTS stay there", y.found(60, 0), 3);
    }

    private static void foundOfLikeOnes() {
        test("promise 14: POINTS stay within 0 and 99; the beginning counts");
        PointsForAll x = withWants("1", "p");
        x.sort(1, 0, 0);
        x.thing(50, 101, 0);
        due("down to 0", x.found(60, -1), 1);
        due("at 0", x.found(60, 0), 0);
        due("the beginning is the least", x.found(60, -4), 0);
        due("the least", x.found(60, -3), 50);
        x.mend(0, 0, 0);
        x.mend(0, 1, 0);
        x.mend(0, 2, 98);
        x.purse(0, 1, 99);
        due("up to 99", x.found(60, -1), 1);
        due("at 99", x.found(60, 0), 99);
        due("gone still", x.found(60, -2), 1);
        PointsForAll y = withWants("p<3");
        y.sort(1, 99, 0);
        y.thing(0, 1, 0);
        due("p is of the POINTS then", y.found(60, -1), 2);
        due("they stop where it is worth nothing", y.found(60, 0), 3);
        due("nothing is wanted then", y.found(60, -2), 0);
    }

    private static void set() {
        test("promise 15: set");
        PointsForAll x = new PointsForAll();
        due("rounds below", x.set(0), BAD);
        due("rounds above", x.set(61), BAD);
        due("without things", x.set(60), 0);
        PointsForAll y = withWants("1");
        y.sort(10, 6, 0);
        y.thing(15, 2, 0);
        due("BOTH then", y.set(60), 5);
        due("POINTS of the round with the least", y.of(0, 2), 3);
        due("BOTH now", y.wanted(-1, 1), 5);
        due("one change", y.count(4), 1);
        due("the least stands already", y.set(60), 5);
        due("no change", y.count(4), 1);
        due("undone", y.undo(), 0);
        due("as they were", y.of(0, 2), 2);
    }

    private static void tell() {
        test("promise 16: tell");
        PointsForAll x = withWants("1");
        x.sort(1, 0, 0);
        x.sort(1, 0, 0);
        due("without things", x.tell(0, 0), 0);
        due("a digit of no thing", x.tell(0, 1), BAD);
        x.thing(1, 0, 0);
        x.thing(1, 0, 0);
        due("the greatest", x.tell(0, 33), 0);
        due("what it was", x.tell(0, 1), 33);
        due("a digit above 3", x.tell(0, 4), BAD);
        due("a digit above 3", x.tell(0, 40), BAD);
        due("a digit of no thing", x.tell(0, 100), BAD);
        due("below", x.tell(0, -1), BAD);
        due("far below", x.tell(0, Integer.MIN_VALUE), BAD);
        due("far above", x.tell(0, Integer.MAX_VALUE), BAD);
        due("no such sort", x.tell(2, 0), BAD);
        due("sort below", x.tell(-1, 0), BAD);
        due("as it was told", x.tell(0, 2), 1);
        due("each sort its own", x.tell(1, 3), 0);
    }

    private static void judge() {
        test("promise 17: judge");
        // Worth of the first: 5 of THING 0 (1 coin, 0 points), 3 of THING 1 (0 coin, 1 point); others 0.
        PointsForAll x = withWants("k>1?0;5-t*2");
        due("nothing told, none there", x.judge(), NOT);
        x.thing(6, 100, 0);
        x.thing(3, 1, 0);
        x.sort(2, 101, 0);
        x.sort(1, 1, 0);
        due("a better one", x.judge(), 20);
        x.tell(0, 1);
        due("still a better one", x.judge(), 20);
        x.tell(0, 21);
        due("too dear in coin", x.judge(), 10);
        x.tell(0, 12);
        due("too dear in points", x.judge(), 10);
        x.tell(0, 11);
        due("the next sort", x.judge(), 21);
        x.tell(1, 10);
        due("too dear for the next sort", x.judge(), 11);
        x.tell(1, 1);
        due("all is well", x.judge(), NOT);
        x.mend(1, 0, 2);
        due("of THING 1 more are told than there are, by heads", x.judge(), 31);
        x.mend(0, 0, 1);
        due("of THING 0 ahead", x.judge(), 30);
        x.mend(0, 0, 2);
        x.mend(1, 0, 3);
        due("just enough", x.judge(), NOT);
        PointsForAll y = withWants("k=1");
        y.thing(9, 0, 0);
        y.thing(9, 0, 0);
        y.sort(1, 0, 0);
        y.tell(0, 33);
        due("one as good as the best", y.judge(), NOT);
        y.tell(0, 30);
        due("worth one less than the best", y.judge(), 20);
    }
}
