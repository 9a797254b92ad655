/** Promises 8 to 10: THE TAPE, TEXTS and their FAULTS, and what they come to. */
final class WantsTest extends Checks {
    static void run() {
        feed();
        wants();
        faults();
        faultsOfDepth();
        worth();
        signs();
        lines();
        wrapping();
    }

    private static void feed() {
        test("promise 8: feed");
        PointsForAll x = new PointsForAll();
        due("n below", x.feed(0, 0), BAD);
        due("n above", x.feed(5, 0), BAD);
        due("n far below", x.feed(Integer.MIN_VALUE, 0), BAD);
        due("none came", x.count(3), 0);
        due("the lowest first", x.feed(3, '1' | '2' << 8 | '3' << 16 | '4' << 24), 3);
        due("want", x.want(), 0);
        x.thing(1, 0, 0);
        x.sort(1, 0, 0);
        due("as read", x.worth(0, 1), 123);
        due("the highest byte, as it is", x.feed(4, '1' | '2' << 8 | '3' << 16 | 0xFF << 24), 4);
        due("a byte that no text has", x.want(), -103);
        for (int i = 1; i <= 29; i++) {
            due("by fours", x.feed(4, 0x30303030), 4 * i);
        }
        due("up to the greatest", x.feed(3, 0x30303030), 119);
        due("more than room", x.feed(2, 0x30303030), FULL);
        due("BAD ahead of FULL", x.feed(5, 0), BAD);
        due("as it was", x.count(3), 119);
        due("full", x.feed(1, 0x30), 120);
        due("one more", x.feed(1, 0x30), FULL);
        due("a fifth digit", x.want(), -104);
    }

    private static void wants() {
        test("promise 9: want");
        PointsForAll x = new PointsForAll();
        due("an empty tape", x.want(), -100);
        due("the first", wantText(x, "1"), 0);
        due("the tape is empty then", x.count(3), 0);
        due("a fault", wantText(x, "1+"), -102);
        due("the tape is empty then, too", x.count(3), 0);
        due("no WANT came of it", x.count(2), 1);
        for (int i = 1; i < 4; i++) {
            due("WANT " + i, wantText(x, "" + i), i);
        }
        due("the fifth", wantText(x, "5"), FULL);
        due("the tape stays", x.count(3), 1);
        due("and grows", x.feed(1, '5'), 2);
        due("four", x.count(2), 4);
        StringBuilder longest = new StringBuilder("1");
        while (longest.length() < 119) {
            longest.append(";1");
        }
        longest.append("0");
        PointsForAll y = new PointsForAll();
        due("the longest", wantText(y, longest.toString()), 0);
        StringBuilder sum = new StringBuilder("-1");
        while (sum.length() < 120) {
            sum.append("+1");
        }
        due("a sum of 120 bytes", wantText(y, sum.toString()), 1);
        y.thing(1, 0, 0);
        y.sort(1, 0, 1);
        due("what it comes to", y.worth(0, 1), 58);
    }

    private static void fault(String text, int place) {
        due("want of " + text, wantText(new PointsForAll(), text), -100 - place);
    }

    private static void faults() {
        test("promise 9: FAULTS");
        fault("x", 0);
        fault("T", 0);
        fault(" 1", 0);
        fault("1 ", 1);
        fault(";", 0);
        fault("1;", 2);
        fault("1;;", 2);
        fault("?1", 0);
        fault("1?", 2);
        fault("1?2?", 3);
        fault("1?2;3?4?5", 7);
        fault("(1?2)", 2);
        fault("(1;2)", 2);
        fault("1)", 1);
        fault("(1", 2);
        fault("()", 1);
        fault("(", 1);
        fault("1(", 1);
        fault("tk", 1);
        fault("t1", 1);
        fault("1t", 1);
        fault("12345", 4);
        fault("1<2<3", 3);
        fault("1=2>3", 3);
        fault("(1<2)<3<4", 7);
        fault("1<2&3<4<5", 7);
        fault("1==2", 2);
        fault("1!", 1);
        fault("!", 1);
        fault("1+-", 3);
        fault("1+*2", 2);
        fault("1-+2", 2);
        fault("|1", 0);
        fault("1||2", 2);
        fault("1<=2", 2);
        fault("1!=2", 1);
        fault("\u00e9", 0);
        fault("\u0000", 0);
        fault("a", 0);
        fault("@", 0);
        fault("/1", 0);
        fault(":", 0);
    }

    private static void faultsOfDepth() {
        test("promise 9: at most 6 are open at once");
        PointsForAll x = withWants("((((((1))))))", "!!!!!!1", "(!(-(-1)))+------1*!!!!!!1", "((((((1))))))+((((((1))))))");
        due("four are fine", x.count(2), 4);
        fault("(((((((1)))))))", 6);
        fault("!!!!!!!1", 6);
        fault("!-!-!-!1", 6);
        fault("(-(-(-(1))))", 6);
        fault("((((((-1))))))", 6);
        fault("((((((1)))))", 12);
        fault("1+((((((2*(3))))))", 10);
        due("behind ?", withWants("((((((1))))))?((((((1))))));((((((1))))))").count(2), 1);
        fault("1?(((((((1)))))))", 8);
        fault("1;(((((((1)))))))", 8);
        fault("!!!!!!(1)", 6);
    }

    private static int worthOf(String text) {
        PointsForAll x = withWants(text);
        x.thing(7, 1203, 4);
        x.thing(8, 3456, 9);
        x.sort(1, 0, 0);
        x.sort(1, 0, 30);
        return x.worth(1, 12);
    }

    private static void worth() {
        test("promise 10: worth");
        PointsForAll x = withWants("t*100+k", "500-k*400", "k*600");
        x.thing(1, 0, 0);
        x.thing(1, 0, 0);
        for (int want = 0; want < 3; want++) {
            x.sort(1, 0, want);
        }
        due("first of the first", x.worth(0, 1), 1);
        due("third of the second", x.worth(0, 13), 103);
        due("no number of one", x.worth(0, 10), BAD);
        due("no number of one", x.worth(0, 14), BAD);
        due("no such thing", x.worth(0, 21), BAD);
        due("below", x.worth(0, -1), BAD);
        due("below", x.worth(0, -9), BAD);
        due("no such sort", x.worth(3, 1), BAD);
        due("sort below", x.worth(-1, 1), BAD);
        due("held at 0", x.worth(1, 2), 0);
        due("held at 999", x.worth(2, 3), 999);
        due("as it is", x.worth(1, 1), 100);
        due("below the greatest", worthOf("998"), 998);
        due("the greatest", worthOf("999"), 999);
        due("above it", worthOf("1000"), 999);
        due("t", worthOf("t"), 1);
        due("k", worthOf("k"), 2);
        due("c", worthOf("c"), 34);
        due("p", worthOf("p"), 56);
        due("s", worthOf("s"), 1);
        due("b", worthOf("b"), 3);
        due("n", worthOf("n"), 2);
        PointsForAll y = withWants("c*10+p");
        y.thing(1, 102, 0);
        y.sort(1, 0, 0);
        y.mend(0, 1, 3);
        y.mend(0, 2, 4);
        due("by what it costs now", y.worth(0, 1), 34);
    }

    private static void signs() {
        test("promise 10: the signs");
        due("|", worthOf("0|0") * 1000 + worthOf("0|7") * 100 + worthOf("7|0") * 10 + worthOf("7|8"), 111);
        due("&", worthOf("0&0") * 1000 + worthOf("0&7") * 100 + worthOf("7&0") * 10 + worthOf("7&8"), 1);
        due("<", worthOf("1<2") * 100 + worthOf("2<2") * 10 + worthOf("3<2"), 100);
        due("=", worthOf("1=2") * 100 + worthOf("2=2") * 10 + worthOf("3=2"), 10);
        due(">", worthOf("1>2") * 100 + worthOf("2>2") * 10 + worthOf("3>2"), 1);
        due("!", worthOf("!0") * 10 + worthOf("!7"), 10);
        due("- ahead", worthOf("5--3"), 8);
        due("- twice ahead", worthOf("--3"), 3);
        due("- from the left", worthOf("9-3-2"), 4);
        due("/ from the left", worthOf("60/5/3"), 4);
        due("/ toward 0", worthOf("10+(-7)/2"), 7);
        due("% toward 0", worthOf("10+(-7)%4"), 7);
        due("/ by 0", worthOf("5+7/0"), 5);
        due("% by 0", worthOf("5+7%0"), 5);
        due("* ahead of +", worthOf("2+3*4"), 14);
        due("+ ahead of <", worthOf("2<1+3"), 1);
        due("< ahead of &", worthOf("2&1<2"), 1);
        due("& ahead of |", worthOf("1|0&0"), 1);
        due("( )", worthOf("(2+3)*4"), 20);
        due("! ahead of *", worthOf("!0*5"), 5);
        due("- ahead of %", worthOf("9+-7%4"), 6);
        due("- and !", worthOf("5+-!0"), 4);
    }

    private static void lines() {
        test("promise 10: the lines");
        due("one that counts always", worthOf("5;6"), 5);
        due("the first is 0", worthOf("0?5;6"), 6);
        due("the first is not 0", worthOf("2?5;6"), 5);
        due("below 0 is not 0", worthOf("-1?5;6"), 5);
        due("the third", worthOf("0?5;t=0?6;k=2?7;8"), 7);
        due("none", worthOf("0?5;0?6"), 0);
        due("what is passed over is no more", worthOf("0?5+6*7;!k?1;k"), 2);
        due("0 counts", worthOf("1?0;9"), 0);
    }

    private static void wrapping() {
        test("promise 10: ints that wrap");
        due("past the greatest", worthOf("9999*9999*22>0"), 0);
        due("exactly", worthOf("(8192*8192*32<0)*7"), 7);
        due("the least by -1", worthOf("8192*8192*32/-1=8192*8192*32"), 1);
        due("the least % -1", worthOf("5+8192*8192*32%-1"), 5);
        due("- of the least", worthOf("-(8192*8192*32)=8192*8192*32"), 1);
        due("round to 0", worthOf("8192*8192*64+3"), 3);
        due("-1 less", worthOf("8192*8192*32-1>0"), 1);
    }
}
