/** Promises 25 to 28: MONTHS, FORESIGHT, CHEAP, WRONG. */
final class MonthsTest extends Checks {
    static void run() {
        months();
        monthsLend();
        foresight();
        thoughts();
        cheap();
        wrong();
        wrongOfLikeOnes();
    }

    private static void months() {
        test("promise 25: months");
        PointsForAll x = withWants("10/k");
        x.sort(1, 9905, 0);
        x.thing(9, 3, 0);
        // Each month one for 3 points of 5; nothing is lent.
        due("one month", x.months(0, 1, 0, 0), 10);
        due("its points lapse", x.months(0, 1, 0, 1), 2);
        due("also with lending", x.months(0, 1, 99, 1), 2);
        due("twelve months", x.months(0, 12, 0, 0), 120);
        due("each month's points lapse", x.months(0, 12, 0, 1), 24);
        due("no such sort", x.months(1, 1, 0, 0), BAD);
        due("sort below", x.months(-1, 1, 0, 0), BAD);
        due("no month", x.months(0, 0, 0, 0), BAD);
        due("too many months", x.months(0, 13, 0, 0), BAD);
        due("lent below", x.months(0, 1, -1, 0), BAD);
        due("lent above", x.months(0, 1, 100, 0), BAD);
        due("what below", x.months(0, 1, 0, -1), BAD);
        due("what above", x.months(0, 1, 0, 2), BAD);
        PointsForAll y = withWants("0");
        y.sort(1, 99, 30);
        due("without things all lapse", y.months(0, 12, 0, 1), 12 * 129);
        due("or are lent and lapse behind the last", y.months(0, 2, 99, 1), 30 + 129 + 99);
    }

    private static void monthsLend() {
        test("promise 25: months lend to the next");
        PointsForAll x = withWants("10/k");
        x.sort(1, 9905, 0);
        x.thing(9, 3, 0);
        // Left 2, so 7 for two; left 1, so 6 for two; left 0, so 5 for one; left 2.
        due("two months", x.months(0, 2, 2, 0), 25);
        due("left behind the last", x.months(0, 2, 2, 1), 1);
        due("four months", x.months(0, 4, 2, 0), 50);
        due("left behind the last", x.months(0, 4, 2, 1), 2);
        due("one point at most: 6 for two", x.months(0, 2, 1, 0), 25);
        due("the other lapses", x.months(0, 2, 1, 1), 1);
        due("PURSE anew", x.months(0, 12, 2, 0), 160);
        x.mend(0, 1, 50);
        due("one each month by PURSE", x.months(0, 3, 99, 0), 30);
        due("points grow and lapse at the end", x.months(0, 3, 99, 1), 6);
        due("but two are lent at most", x.months(0, 3, 2, 1), 2 + 4);
    }

    private static void foresight() {
        test("promise 26: foresight");
        PointsForAll x = withWants("10/k");
        x.sort(1, 9905, 0);
        due("without things", x.foresight(0), 0);
        x.thing(9, 3, 0);
        due("one, then two", x.foresight(0), 5);
        x.mend(0, 1, 50);
        due("but not by the PURSE", x.foresight(0), 0);
        x.mend(0, 1, 0);
        x.mend(0, 2, 6);
        due("none, then one", x.foresight(0), 10);
        x.mend(0, 2, 11);
        due("too dear for both months", x.foresight(0), 0);
        x.mend(0, 2, 10);
        due("just enough", x.foresight(0), 10);
        due("no such sort", x.foresight(1), BAD);
        due("sort below", x.foresight(-1), BAD);
        // Greedy one: 4 points for worth 5 now; by foresight 0 now, 10 points for 20 then.
        PointsForAll y = withWants("k>1?0;t=0?5;t=1?20");
        y.sort(1, 5, 0);
        y.thing(9, 4, 0);
        y.thing(9, 9, 0);
        due("little now, much then", y.foresight(0), 10);
        PointsForAll z = withWants("999");
        z.sort(1, 9999, 30);
        for (int i = 0; i < 6; i++) {
            z.thing(0, 43, 0);
        }
        due("the greatest: 3 and 3", z.foresight(0), 0);
        PointsForAll free = withWants("1");
        free.sort(1, 1, 0);
        free.thing(0, 0, 0);
        due("for no points at all", free.foresight(0), 0);
        free.purse(0, 1, 99);
        free.mend(0, 2, 86);
        free.thing(0, 1, 0);
        // 3 and 1 cost 259, above twice all that a SORT may have.
        due("dearer than all points", free.foresight(0), 0);
    }

    private static void thoughts() {
        test("what is thought of leaves nothing behind");
        PointsForAll x = withWants("20-k*5+p");
        for (int i = 0; i < 3; i++) {
            x.thing(9 + i, 302 + i, 1);
        }
        x.sort(3, 2008, 0);
        x.sort(4, 1510, 10);
        x.tell(0, 111);
        x.tell(1, 222);
        long[] due = answers(x, -1);
        for (int thought = 0; thought < 5; thought++) {
            long[] got = answers(x, thought);
            for (int i = 0; i < due.length; i++) {
                due("answer " + i + " behind thought " + thought, got[i], due[i]);
            }
        }
    }

    private static long[] answers(PointsForAll x, int thought) {
        long[] answers = new long[18];
        for (int i = 0; i < answers.length; i++) {
            think(x, thought);
            answers[i] = answer(x, i);
        }
        return answers;
    }

    private static void think(PointsForAll x, int thought) {
        switch (thought) {
            case 0: x.fewest(); break;
            case 1: x.found(7, -1); break;
            case 2: x.changed(0, 9, 0); break;
            case 3: x.beside(0, 300); break;
            case 4: x.free(); break;
            default: break;
        }
    }

    private static long answer(PointsForAll x, int which) {
        switch (which) {
            case 0: return x.worth(0, 11);
            case 1: return x.basket(0, 1);
            case 2: return x.wanted(0, 1);
            case 3: return x.led(2, 0);
            case 4: return x.found(3, 0);
            case 5: return x.judge();
            case 6: return x.changed(1, 3, 0);
            case 7: return x.changed(1, 3, 1);
            case 8: return x.free();
            case 9: return x.black(0, 110, 50);
            case 10: return x.beside(0, 150);
            case 11: return x.beside(0, 0);
            case 12: return x.loses(200);
            case 13: return x.fewest();
            case 14: return x.least(1);
            case 15: return x.months(0, 3, 4, 0);
            case 16: return x.foresight(0);
            default: return x.wrong(1);
        }
    }

    private static void cheap() {
        test("promise 27: cheap");
        PointsForAll x = new PointsForAll();
        due("below", x.cheap(-1), BAD);
        due("above", x.cheap(100), BAD);
        due("without things", x.cheap(0), NOT);
        x.thing(0, 1005, 5);
        x.thing(0, 2007, 11);
        x.thing(0, 3007, 20);
        x.thing(0, 801, 9);
        due("made above its coin is none", x.cheap(0), 0);
        due("just so much", x.cheap(5), 0);
        due("of like ones the least", x.cheap(6), 1);
        due("just so much", x.cheap(9), 1);
        due("the other", x.cheap(10), 2);
        due("none", x.cheap(11), NOT);
        due("the greatest", x.cheap(99), NOT);
        x.thing(0, 9999, 0);
        due("one at 99", x.cheap(99), 4);
    }

    private static void wrong() {
        test("promise 28: wrong");
        PointsForAll x = withWants("k=1");
        for (int what = 0; what < 3; what++) {
            due("without things", x.wrong(what), NOT);
        }
        due("below", x.wrong(-1), VOID);
        due("above", x.wrong(3), VOID);
        x.thing(0, 0, 0);
        due("none there is none", x.wrong(0), NOT);
        due("none there is none", x.wrong(2), NOT);
        x.sort(10, 0, 0);
        x.thing(7, 0, 0);
        x.thing(12, 0, 0);
        // OVER -10 of 0, -3 of 7, 2 of 12.
        due("the thing", x.wrong(0), 1);
        due("by 3 / 7", x.wrong(1), 428);
        due("its POINTS should rise", x.wrong(2), 1);
        x.mend(1, 0, 11);
        due("now the heaps", x.wrong(0), 2);
        due("by 2 / 12", x.wrong(1), 166);
        due("its POINTS should fall", x.wrong(2), -1);
        x.mend(1, 0, 10);
        x.mend(2, 0, 10);
        due("all is right: the first", x.wrong(0), 1);
        due("by nothing", x.wrong(1), 0);
        due("its POINTS should stay", x.wrong(2), 0);
        due("VOID ahead of NOT", new PointsForAll().wrong(3), VOID);
    }

    private static void wrongOfLikeOnes() {
        test("promise 28: of like ones the first, cut");
        PointsForAll x = withWants("0");
        x.thing(5, 0, 0);
        x.thing(9, 0, 0);
        due("1000 both", x.wrong(0), 0);
        PointsForAll y = withWants("k=1");
        y.sort(1, 0, 0);
        y.thing(998, 0, 0);
        y.thing(999, 0, 0);
        // 997000 / 998 is 998.99.., 998000 / 999 is 998.99..: both 998.
        due("alike when cut", y.wrong(0), 0);
        due("998", y.wrong(1), 998);
        y.mend(0, 0, 0);
        y.mend(1, 0, 1);
        due("one of which there is one", y.wrong(0), 1);
        y.sort(4, 0, 0);
        due("by 4 / 1", y.wrong(1), 4000);
    }
}
