/** Promises 18 to 24: points CHANGED for coin, BLACK, BESIDE, LOSES, FEWEST, LEAST. */
final class ChangingTest extends Checks {
    static void run() {
        changed();
        changedOfLikeOnes();
        free();
        black();
        blackSellsNothing();
        beside();
        besideByEqualShares();
        loses();
        fewest();
        fewestWhenSomeAreFree();
        least();
    }

    private static void changed() {
        test("promise 18: changed");
        PointsForAll x = withWants("10/k");
        x.sort(1, 1004, 0);
        x.thing(9, 203, 0);
        // WORTHS 10, 5, 3; one costs 2 coin and 3 points. By the book one; at 1: two for 4 + 2; three for 6 + 5.
        due("at 1: two", x.changed(0, 1, 0), 15);
        due("better by", x.changed(0, 1, 1), 5);
        x.purse(0, 0, 11);
        due("at 1: three, just", x.changed(0, 1, 0), 18);
        due("at 2: two, for 4 + 4", x.changed(0, 2, 0), 15);
        due("at 3: two, for 4 + 6", x.changed(0, 3, 0), 15);
        due("at 4: one", x.changed(0, 4, 0), 10);
        due("not better", x.changed(0, 4, 1), 0);
        due("no such sort", x.changed(1, 1, 0), BAD);
        due("sort below", x.changed(-1, 1, 0), BAD);
        due("rate below", x.changed(0, 0, 0), BAD);
        due("rate above", x.changed(0, 100, 0), BAD);
        due("the greatest rate", x.changed(0, 99, 0), 10);
        due("what below", x.changed(0, 1, -1), BAD);
        due("what above", x.changed(0, 1, 2), BAD);
        PointsForAll y = withWants("10/k");
        y.sort(1, 5, 0);
        y.thing(9, 500, 0);
        due("what is left brings coin", y.changed(0, 1, 0), 10);
        due("better by all", y.changed(0, 1, 1), 10);
        due("at 2 for two", y.changed(0, 2, 0), 15);
        y.mend(0, 1, 6);
        due("one coin short", y.changed(0, 1, 0), 0);
        due("nothing of it is done", y.of(0, 12), 5);
    }

    private static void changedOfLikeOnes() {
        test("promise 19: of like ones, what costs the least by the rate");
        // One of either is worth 1; THING 0 costs 1 coin and 2 points, THING 1 3 coin and 1 point.
        PointsForAll x = withWants("k=1&(t=0|t=1)");
        x.thing(9, 102, 0);
        x.thing(9, 301, 0);
        x.sort(1, 301, 0);
        // At 1: THING 0 for 3, THING 1 for 4, both for 7; there are 4: so THING 0, at 2 points of 1.
        // At 2: THING 0 and THING 1 for 5 each of 5: the least points: THING 1, at 1 point of 1.
        due("the least points at a like cost", x.free(), 2);
        x.mend(1, 1, 4);
        // At 2 now THING 1 costs 6; at 3: THING 0 for 7, THING 1 for 7 of 6: none.
        due("one of them cheaper", x.free(), 3);
    }

    private static void free() {
        test("promise 19: free");
        PointsForAll x = new PointsForAll();
        due("no people", x.free(), 1);
        PointsForAll y = withWants("10/k");
        y.thing(9, 3, 0);
        y.sort(2, 1004, 0);
        // At 1 three for 9 points, at 2 three: 10 + 8 - 18; at 3: 22 for 18 is two; at 5: 30 for two: 30.
        due("too dear for a second one", y.free(), 6);
        y.sort(2, 99, 0);
        due("the other sort has points to sell", y.free(), 1);
        PointsForAll z = withWants("1");
        z.thing(0, 1, 0);
        z.sort(1, 9900, 0);
        due("a point is never dear enough", z.free(), NOT);
        z.purse(0, 0, 98);
        due("but at 99", z.free(), 99);
    }

    private static void black() {
        test("promise 20: black");
        PointsForAll x = withWants("10/k");
        x.thing(9, 203, 0);
        x.sort(1, 1004, 0);
        // Two cost 4 coin and 2 points above the book: 6 coin for these.
        due("at 3", x.black(0, 300, 0), 15);
        due("at 4", x.black(0, 400, 0), 10);
        due("a fine of 1, always caught", x.black(0, 201, 100), 15);
        due("a fine of 2, always caught", x.black(0, 202, 100), 10);
        due("a fine, never caught", x.black(0, 399, 0), 15);
        due("up: 2 and 1 hundredth", x.black(0, 201, 1), 15);
        due("up: 3 and 1 hundredth", x.black(0, 301, 1), 10);
        due("2 and 99 by 1 hundredth", x.black(0, 299, 1), 15);
        due("2 and 99 by 2 hundredths", x.black(0, 299, 2), 10);
        due("2 and 1", x.black(0, 250, 2), 15);
        due("no such sort", x.black(1, 100, 0), BAD);
        due("sort below", x.black(-1, 100, 0), BAD);
        due("rate below", x.black(0, 99, 0), BAD);
        due("rate above", x.black(0, 10000, 0), BAD);
        due("the greatest", x.black(0, 9999, 100), 10);
        due("caught below", x.black(0, 100, -1), BAD);
        due("caught above", x.black(0, 100, 101), BAD);
        due("far below", x.black(0, Integer.MIN_VALUE, 0), BAD);
    }

    private static void blackSellsNothing() {
        test("promise 20: nothing is sold by stealth");
        PointsForAll x = withWants("10/k");
        x.thing(9, 500, 0);
        x.sort(1, 499, 0);
        due("points are left", x.black(0, 100, 0), 0);
        due("sold openly", x.changed(0, 1, 0), 18);
    }

    private static void beside() {
        test("promise 21: beside, by coin alone");
        PointsForAll x = withWants("10/k", "c*10+p");
        x.thing(9, 399, 0);
        x.sort(1, 1000, 0);
        x.sort(1, 1000, 1);
        due("points cost nothing", x.beside(0, 100), 18);
        due("4.5 is cut", x.beside(0, 150), 15);
        due("at 1.66", x.beside(0, 166), 15);
        due("at 1.67: 5", x.beside(0, 167), 15);
        due("at 2: 6", x.beside(0, 200), 10);
        due("at 3.66: 10", x.beside(0, 366), 10);
        due("at 3.67: 11", x.beside(0, 367), 0);
        due("the greatest", x.beside(0, 900), 0);
        due("WORTHS stay", x.beside(1, 200), 129);
        due("below", x.beside(0, -1), BAD);
        due("between", x.beside(0, 1), BAD);
        due("between", x.beside(0, 99), BAD);
        due("above", x.beside(0, 901), BAD);
        due("no such sort", x.beside(2, 100), BAD);
        due("sort below", x.beside(-1, 100), BAD);
    }

    private static void besideByEqualShares() {
        test("promise 21: beside, by equal shares");
        PointsForAll x = withWants("10/k+t");
        x.thing(19, 9999, 0);
        x.thing(20, 9999, 0);
        x.sort(4, 0, 0);
        x.sort(6, 0, 0);
        due("19 by 10 is 1, 20 by 10 is 2", x.beside(0, 0), 10 + 11 + 6);
        x.mend(1, 0, 999);
        due("3 at most", x.beside(1, 0), 10 + 11 + 6 + 4);
        x.mend(0, 0, 9);
        x.mend(1, 0, 0);
        due("none", x.beside(1, 0), 0);
        PointsForAll y = withWants("10/k");
        y.thing(2, 0, 0);
        y.sort(1, 0, 0);
        due("one head alone", y.beside(0, 0), 15);
    }

    private static void loses() {
        test("promise 22: loses");
        PointsForAll x = withWants("10/k");
        due("no people", x.loses(0), 0);
        x.thing(6, 203, 0);
        x.sort(1, 403, 0);
        x.sort(1, 206, 0);
        x.sort(1, 306, 0);
        // BEST BASKETS: one each. By coin alone: two, one, one at 1; by equal shares: two each.
        due("by coin alone", x.loses(100), 1);
        due("by dear coin", x.loses(201), 0);
        due("by equal shares", x.loses(0), 7);
        x.purse(2, 0, 4);
        due("one that has two", x.loses(0), 3);
        due("by coin alone it has two, too", x.loses(100), 1);
        due("below", x.loses(-1), BAD);
        due("between", x.loses(99), BAD);
        due("above", x.loses(901), BAD);
        due("the greatest", x.loses(900), 0);
    }

    private static void fewest() {
        test("promise 23: fewest");
        PointsForAll x = new PointsForAll();
        due("nothing there", x.fewest(), 0);
        PointsForAll y = withWants("1");
        y.thing(9, 0, 0);
        due("nobody there", y.fewest(), 0);
        y.sort(3, 0, 0);
        due("three each for nothing", y.fewest(), 0);
        y.mend(0, 0, 8);
        due("gone, at 0 points too", y.fewest(), NOT);
        y.mend(0, 2, 1);
        due("on points", y.fewest(), 1);
        y.thing(9, 1, 0);
        due("the other is not needed", y.fewest(), 1);
        y.mend(0, 0, 9);
        y.mend(1, 0, 8);
        due("the other one", y.fewest(), 2);
        y.mend(0, 0, 8);
        due("both", y.fewest(), 3);
        y.thing(9, 1, 0);
        due("two of three", y.fewest(), 3);
        y.thing(0, 0, 0);
        due("one that is gone for nothing", y.fewest(), NOT);
        due("POINTS stay", y.of(0, 2), 1);
        due("nothing to undo behind it", y.count(4), 5);
    }

    private static void fewestWhenSomeAreFree() {
        test("promise 23: fewest, of like ones the least as bits");
        PointsForAll x = withWants("t=0?1;k=1?1;0", "p>0?0;1");
        // One coin buys one of THING 0 (or of THING 1): ten heads, nine of either.
        x.thing(30, 1, 0);
        x.thing(10, 1, 0);
        x.thing(10, 1, 0);
        x.sort(10, 9999, 0);
        due("nothing on points", x.fewest(), 0);
        x.purse(0, 1, 2);
        x.mend(0, 0, 20);
        due("THING 0 on points", x.fewest(), 1);
        x.mend(0, 0, 30);
        x.mend(2, 0, 9);
        x.mend(2, 2, 3);
        due("THING 2 on points", x.fewest(), 4);
        PointsForAll y = withWants("p>0?0;1");
        y.thing(0, 1, 0);
        y.sort(1, 99, 0);
        due("on points it is worth nothing", y.fewest(), 1);
        y.mend(0, 0, 3);
        due("without it is worth some", y.fewest(), 0);
    }

    private static void least() {
        test("promise 24: least");
        PointsForAll x = withWants("t=0", "t=1", "k=1");
        x.thing(0, 0, 0);
        x.thing(0, 0, 0);
        for (int want = 0; want < 3; want++) {
            x.sort(1, 0, want);
        }
        due("of THING 0", x.least(0), 5);
        due("of THING 1", x.least(1), 6);
        due("no such thing", x.least(2), BAD);
        due("thing below", x.least(-1), BAD);
        x.mend(0, 1, 1);
        due("none", x.least(0), 0);
    }
}
