/** Boundaries of promises 8 to 10: THE TAPE, TEXTS, FAULTS, WORTH. */
final class WantEdges extends Checks {
    private static final String[] IN_SIX = {"((((((1))))))", "!!!!!!1", "------1", "(!-(!-1))", "-(-(-(1)))"};

    static void run() {
        feed();
        lines();
        parts();
        ones();
        depth();
        faults();
        fullOfWants();
        worthOfWhich();
        names();
        wrapping();
        dividing();
        truths();
        whatBindsFirst();
        whichLineCounts();
    }

    private static String times(String text, int many) {
        StringBuilder all = new StringBuilder();
        for (int i = 0; i < many; i++) {
            all.append(text);
        }
        return all.toString();
    }

    private static void fine(String... texts) {
        for (String text : texts) {
            new Subject().wants(text).gives("count(2)", 1).gives("count(3)", 0);
        }
    }

    private static void fault(String text, int place) {
        new Subject().fault(text, place);
    }

    private static void feed() {
        edge(8, "n (1 .. 4) bytes come to THE TAPE");
        for (int n = 1; n <= 4; n++) {
            new Subject().gives("feed(" + n + ", 825307441)", n).gives("count(3)", n).gives("feed(" + n + ", 0)", 2 * n);
        }
        new Subject("feed(1, 49)").refuses(BAD, "feed(0, 49)", "feed(-1, 49)", "feed(5, 49)", "feed(MIN, 49)", "feed(MAX, 49)");

        edge(8, "the lowest of v first");
        new Subject().does("feed(1, " + ('1' | 'x' << 8) + ")").gives("want()", 0);
        new Subject().does("feed(2, " + ('1' | '2' << 8 | 'x' << 16) + ")").gives("want()", 0).does("thing(1, 0, 0)",
            "sort(1, 0, 0)").gives("worth(0, 1)", 12);
        new Subject().does("feed(4, " + ('1' | '+' << 8 | '2' << 16 | 0xFF << 24) + ")").gives("want()", -103);
        new Subject().does("feed(4, MIN)").gives("want()", -100);

        edge(8, "how many it has");
        new Subject().gives("feed(1, 49)", 1).gives("feed(3, 49)", 4).does("want()").gives("feed(2, 49)", 2);

        edge(8, "BAD, FULL.");
        Subject x = new Subject().feeds(times("1", 118));
        x.refuses(FULL, "feed(3, 49)", "feed(4, 49)").refuses(BAD, "feed(0, 49)", "feed(5, 49)").gives("feed(2, 12593)", 120);
        x.refuses(FULL, "feed(1, 49)", "feed(2, 49)", "feed(3, 49)", "feed(4, 49)").refuses(BAD, "feed(0, 49)", "feed(5, 49)");

        edge(8, "THE TAPE (at most 120 bytes)");
        for (int n = 1; n <= 4; n++) {
            Subject y = new Subject().feeds(times("1", 120 - n));
            y.refuses("feed(" + (n + 1) + ", 49)", n == 4 ? BAD : FULL).gives("feed(" + n + ", 825307441)", 120);
        }
        fine("1" + times("+1", 59), "10" + times("+k", 59));
        // Each of these 120 bytes counts for itself.
        new Subject().wants("k", "-1" + times("+1", 59)).does("thing(1, 0, 0)", "sort(1, 0, 1)").gives("worth(0, 1)", 58);
    }

    private static void lines() {
        edge(9, "LINES, one or more, parted by ;");
        fine("1", "1;2", times("1;", 59) + "1", times("1;", 59) + "10", "0?1;0?2;3");
        fault("", 0);
        fault(";", 0);
        fault(";1", 0);
        fault("1;", 2);
        fault("1;;2", 2);
        fault(times("1;", 60), 120);

        edge(9, "LINE: E, or E ? E (what counts if the first is not 0)");
        fine("1", "1?2", "1?2;3?4", "(1)?(2)");
        fault("?", 0);
        fault("?1", 0);
        fault("1?", 2);
        fault("1??2", 2);
        fault("1?2?3", 3);
        fault("1?;2", 2);
        fault("(1?2)", 2);
        fault("1;2?3?4", 5);
    }

    private static void joined(String sign, int afterTwo) {
        String two = "1" + sign + "1";
        fine(two, "(" + two + ")" + sign + "(" + two + ")", two + "?" + two + ";" + two);
        fault(sign + "1", 0);
        fault("1" + sign, 2);
        fault("1" + sign + "*1", 2);
        fault("1" + sign + sign + "1", 2);
        fault("1" + sign + ")", 2);
        if (afterTwo < 0) {
            fine(two + sign + "1", "1" + times(sign + "1", 59));
        } else {
            fault(two + sign + "1", afterTwo);
        }
    }

    private static void parts() {
        edge(9, "E = A { | A }.");
        joined("|", -1);
        edge(9, "A = B { & B }.");
        joined("&", -1);
        edge(9, "B = S, or S < S, S = S, S > S.");
        for (String first : new String[] {"<", "=", ">"}) {
            joined(first, 3);
            for (String second : new String[] {"<", "=", ">"}) {
                fault("1" + first + "2" + second + "3", 3);
                fine("(1" + first + "2)" + second + "3", "1" + first + "2&2" + second + "3",
                    "1" + first + "2|2" + second + "3");
            }
        }
        edge(9, "S = P { + P, - P }.");
        joined("+", -1);
        fine("1-1", "1-1-1", "1--1", "1+-1", "1-1+1", "-1" + times("-1", 59));
        fault("1-", 2);
        fault("1-+1", 2);
        edge(9, "P = O { * O, / O, % O }.");
        joined("*", -1);
        joined("/", -1);
        joined("%", -1);
    }

    private static void ones() {
        edge(9, "O = a number (1 to 4 digits), a NAME, ! O, - O, ( E ).", "numbers");
        fine("0", "9", "10", "999", "0000", "9999", "1234+1234", "(9999)");
        fault("12345", 4);
        fault("00000", 4);
        fault("1+12345", 6);
        fault("(12345)", 5);

        edge(9, "O = a number (1 to 4 digits), a NAME, ! O, - O, ( E ).", "one beside another");
        fault("1t", 1);
        fault("t1", 1);
        fault("tt", 1);
        fault("1(1)", 1);
        fault("(1)1", 3);
        fault("(1)(1)", 3);
        fault("1!", 1);
        fault("1!1", 1);

        edge(9, "O = a number (1 to 4 digits), a NAME, ! O, - O, ( E ).", "none");
        fault("!", 1);
        fault("-", 1);
        fault("(", 1);
        fault("()", 1);
        fault(")", 0);
        fault("1)", 1);
        fault("(1", 2);
        fault("(1))", 3);
        fault("((1)", 4);
        fault("!)", 1);
        fault("-*1", 1);

        edge(9, "NAMES: t the THING, k which one of it (1 the first), c its COIN, p its POINTS, s the SORT, b babies, n how many "
            + "THINGS.", "which bytes stand alone");
        for (int sign = 0; sign <= 255; sign++) {
            Subject x = new Subject("feed(1, " + sign + ")");
            boolean one = "tkcpsbn0123456789".indexOf(sign) >= 0;
            x.gives("want()", one ? 0 : "!-(".indexOf(sign) >= 0 ? -101 : -100);
            new Subject("feed(2, " + ('1' | sign << 8) + ")").gives("want()", sign >= '0' && sign <= '9' ? 0
                : "|&<=>+-*/%?;".indexOf(sign) >= 0 ? -102 : -101);
        }

        edge(9, "No blanks.");
        fault(" ", 0);
        fault(" 1", 0);
        fault("1 ", 1);
        fault("1 +1", 1);
        fault("1+ 1", 2);
        fault("( 1)", 1);
        fault("1; 2", 2);
    }

    private static void depth() {
        edge(9, "At most 6 of ( ! - ahead of an O are open at once.", "six");
        fine(IN_SIX);

        edge(9, "At most 6 of ( ! - ahead of an O are open at once.", "seven");
        fault("(((((((1)))))))", 6);
        fault("!!!!!!!1", 6);
        fault("-------1", 6);
        fault("((((((!1))))))", 6);
        fault("((((((-1))))))", 6);
        fault("!!!!!!(1)", 6);
        fault("------!1", 6);
        fault("(!-(!-(1)))", 6);
        fault("((((((1+(1)))))))", 8);

        edge(9, "At most 6 of ( ! - ahead of an O are open at once.", "those that are closed are open no more");
        for (String six : IN_SIX) {
            fine(six + "+" + six, six + "?" + six + ";" + six, "(1)+" + six, "!1|" + six, "-1=" + six);
            fault("1?(" + six, 8);
        }
        fine("((((((1)-1)+1)*(1))|(1))&(1))", "(((((1)))))+(!1)", "(((((!1))))+(1))", "!!!!!(1)*!!!!!(1)");

        edge(9, "At most 6 of ( ! - ahead of an O are open at once.", "- between two is none of them");
        fine("1" + times("-1", 59), "((((((1-1-1-1))))))", "------1-1-1");
        fault("((((((1--1))))))", 8);
    }

    private static void faults() {
        edge(9, "FAULT: the place (from 0) of the first byte with which no TEXT goes on", "the first place and the last");
        fault("x", 0);
        fault("x1", 0);
        fault("1x", 1);
        fault("1x+", 1);
        fault("1" + times("+1", 59) + "x", 119);
        fault("x" + times("+1", 59) + "1", 0);
        fault("1" + times("+1", 58) + "x+1", 117);

        edge(9, "the length, if it ends too early", "at the first place and behind the last");
        fault("", 0);
        fault("1+", 2);
        fault("1" + times("+1", 59) + "+", 120);
        fault("1+(1" + times("+1", 58), 120);
        fault(times("1;", 60), 120);

        edge(9, "-100 less its FAULT; THE TAPE is empty then.");
        new Subject().wants("1").fault("1+", 2).fault("", 0).wants("2").fault(times("1;", 60), 120)
            .gives("feed(1, 49)", 1).gives("want()", 2).gives("count(3)", 0);
    }

    private static void fullOfWants() {
        edge(9, "WANTS 0 .. 3 are TEXTS by THE TAPE");
        Subject x = new Subject();
        for (int i = 0; i <= 3; i++) {
            x.feeds("1").gives("want()", i).gives("count(2)", i + 1);
        }
        x.feeds("1").refuses("want()", FULL);

        edge(9, "FULL (it stays).");
        Subject y = new Subject().wants("1", "2", "3", "4").refuses("want()", FULL).feeds("12").refuses("want()", FULL);
        y.gives("count(3)", 2).gives("feed(1, 49)", 3).feeds(times("1", 117)).refuses("want()", FULL).gives("count(3)", 120);
    }

    private static void worthOfWhich() {
        edge(10, "WORTH of the k-th (1 .. 3) one of a THING to a SORT.");
        Subject x = new Subject().wants("k").does("thing(1, 0, 0)", "thing(1, 0, 0)", "sort(1, 0, 0)", "sort(1, 0, 0)");
        for (int thing = 0; thing <= 1; thing++) {
            x.gives("worth(0, " + thing + "1)", 1).gives("worth(1, " + thing + "3)", 3);
            x.refuses(BAD, "worth(0, " + thing + "0)", "worth(0, " + thing + "4)", "worth(0, " + thing + "9)");
        }

        edge(10, "tk: 10 times the THING, and k. BAD.");
        x.refuses(BAD, "worth(0, 21)", "worth(0, -1)", "worth(0, -9)", "worth(0, -11)", "worth(0, MIN)", "worth(0, MAX)");
        x.refuses(BAD, "worth(-1, 1)", "worth(2, 1)", "worth(MIN, 1)", "worth(MAX, 1)");
        new Subject().wants("k").does("sort(1, 0, 0)").refuses("worth(0, 1)", BAD);
        Subject six = new Subject().wants("t*10+k").does("sort(1, 0, 0)");
        for (int i = 0; i <= 5; i++) {
            six.does("thing(1, 0, 0)");
        }
        six.gives("worth(0, 53)", 53).refuses("worth(0, 61)", BAD);

        edge(10, "(held within 0 .. 999)");
        worth("0-1", 0);
        worth("0", 0);
        worth("1", 1);
        worth("998", 998);
        worth("999", 999);
        worth("1000", 999);
        worth("8192*8192*32", 0);
        worth("8192*8192*32-1", 999);
    }

    /** WORTH of the second one of THING 1 (34 coin, 56 points) of two to SORT 1 with 3 babies. */
    private static void worth(String text, int due) {
        new Subject().wants(text).does("thing(7, 1203, 4)", "thing(8, 3456, 9)", "sort(1, 0, 0)", "sort(1, 0, 30)")
            .gives("worth(1, 12)", due);
    }

    private static void isSo(String text) {
        worth("(" + text + ")*7", 7);
    }

    private static void names() {
        edge(10, "NAMES: t the THING, k which one of it (1 the first), c its COIN, p its POINTS, s the SORT, b babies, n how many "
            + "THINGS.", "the least and the greatest of each");
        Subject x = new Subject().wants("t*100+k*10+n", "c", "p", "s*10+b").does("thing(1, 0, 0)", "sort(1, 0, 0)");
        x.gives("worth(0, 1)", 11).gives("worth(0, 3)", 31);
        x.does("thing(1, 9999, 0)", "thing(1, 0, 0)", "thing(1, 0, 0)", "thing(1, 0, 0)", "thing(1, 0, 0)");
        x.gives("worth(0, 1)", 16).gives("worth(0, 53)", 536);
        x.does("sort(1, 0, 1)", "sort(1, 0, 2)", "sort(1, 0, 3)", "sort(1, 0, 33)");
        x.gives("worth(1, 1)", 0).gives("worth(1, 11)", 99).gives("worth(2, 1)", 0).gives("worth(2, 11)", 99);
        x.gives("worth(3, 1)", 30).gives("worth(4, 1)", 43);
    }

    private static void wrapping() {
        edge(10, "Ints that wrap; / and % toward 0, by 0 they give 0", "they wrap");
        isSo("8192*8192*32<0");
        isSo("8192*8192*64=0");
        isSo("8192*8192*32-1>0");
        isSo("8192*8192*32-1+1<0");
        isSo("(8192*8192*32-1)*2=-2");
        isSo("-(8192*8192*32)=8192*8192*32");
        isSo("8192*8192*32/-1=8192*8192*32");
        isSo("8192*8192*32%-1=0");
        isSo("9999*9999*99/1000/1000=1308");
        isSo("9999*9999*22/1000/1000=-2095");
        isSo("-(8192*8192*32-1)-2=8192*8192*32-1");
    }

    private static void dividing() {
        edge(10, "Ints that wrap; / and % toward 0, by 0 they give 0", "toward 0");
        isSo("7/2=3");
        isSo("-7/2=-3");
        isSo("7/-2=-3");
        isSo("-7/-2=3");
        isSo("7%2=1");
        isSo("-7%2=-1");
        isSo("7%-2=1");
        isSo("-7%-2=-1");
        isSo("-1/2=0");
        isSo("6/7=0");

        edge(10, "Ints that wrap; / and % toward 0, by 0 they give 0", "by 0");
        isSo("7/0=0");
        isSo("7%0=0");
        isSo("0/0=0");
        isSo("0%0=0");
        isSo("8192*8192*32/0=0");
        isSo("-7/(k-2)=0");
        isSo("1+7/0*5=1");
    }

    private static void truths() {
        edge(10, "| & < = > ! give 1, 0; all is worked out");
        for (String one : new String[] {"2|2", "0|2", "2|0", "0|-1", "2&2", "-1&-2", "1<2", "-1<0", "2=2", "-2=-2", "3>2",
            "0>-1", "!0",
            "!!2", "1|1/0", "8192*8192*32<8192*8192*32-1"}) {
            worth(one, 1);
        }
        for (String none : new String[] {"0|0", "0&2", "2&0", "0&0", "2<2", "3<2", "0<-1", "1=2", "3=2", "-2=2", "1>2",
            "2>2", "-1>0",
            "!1", "!2", "!-1", "0&1%0", "8192*8192*32>8192*8192*32-1"}) {
            worth(none, 0);
        }
    }

    private static void whatBindsFirst() {
        edge(10, "E = A { | A }.", "& binds before |");
        worth("1|0&0", 1);
        worth("0&0|1", 1);
        edge(10, "A = B { & B }.", "< = > bind before &");
        worth("3&2>1", 1);
        worth("2>1&0", 0);
        worth("0&0=0", 0);
        edge(10, "B = S, or S < S, S = S, S > S.", "+ - bind before < = >");
        worth("2<1+3", 1);
        worth("3-2>0", 1);
        worth("5=5-0", 1);
        edge(10, "S = P { + P, - P }.", "from the left, * / % before");
        worth("9-3-2", 4);
        worth("9-3+2", 8);
        worth("2+3*4", 14);
        worth("2*3+4", 10);
        worth("9-8/4", 7);
        worth("9-8%5", 6);
        edge(10, "P = O { * O, / O, % O }.", "from the left");
        worth("60/5/3", 4);
        worth("60/5*3", 36);
        worth("60%7*3", 12);
        worth("3*60%7", 5);
        edge(10, "O = a number (1 to 4 digits), a NAME, ! O, - O, ( E ).", "! and - before * / %");
        worth("!0*5", 5);
        worth("9+-7%4", 6);
        worth("5+-!0", 4);
        worth("(2+3)*4", 20);
    }

    private static void whichLineCounts() {
        edge(10, "The first LINE without a first E, or whose first E is not 0, counts; none: 0.", "0 and what is not 0");
        worth("0?5;6", 6);
        worth("1?5;6", 5);
        worth("-1?5;6", 5);
        worth("8192*8192*32?5;6", 5);
        worth("8192*8192*64?5;6", 6);
        worth("1?0;6", 0);

        edge(10, "The first LINE without a first E, or whose first E is not 0, counts; none: 0.",
            "the first of them, the last, none");
        worth("5;6;7", 5);
        worth("0?5;6;1?7", 6);
        worth("0?5;1?6;7", 6);
        worth("0?5;0?6;1?7", 7);
        worth("0?5;0?6;0?7", 0);
        worth("0?5", 0);
        worth(times("0?5;", 29) + "0?7", 0);
        worth(times("0?5;", 29) + "1?7", 7);
    }
}
