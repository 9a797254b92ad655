/** Counts tests by name; a test fails when one of its answers is not the one that is due. */
class Checks {
    static final int BAD = PointsForAll.BAD, NOT = PointsForAll.NOT, FULL = PointsForAll.FULL;
    static final int STATE = PointsForAll.STATE, VOID = PointsForAll.VOID;

    private static int passed;
    private static int failed;
    private static String name;
    private static boolean fine;

    Checks() {
    }

    static void startFrom(int passedBefore, int failedBefore) {
        passed = passedBefore;
        failed = failedBefore;
    }

    static void test(String ofName) {
        close();
        name = ofName;
        fine = true;
    }

    /** A test of one sentence: its promise (0: it is said for all), and its words as the document has them. */
    static void edge(int promise, String sentence) {
        edge(promise, sentence, "");
    }

    /** A test of one sentence that has several, each with what it looks at. */
    static void edge(int promise, String sentence, String what) {
        test((promise == 0 ? "promises 1 to 40" : "promise " + promise) + ", \"" + sentence + "\"" + (what.isEmpty() ? "" : " - " + what));
        so("these words stand in the document, once", Document.holds(promise, sentence));
    }

    static void due(String call, long got, long want) {
        if (got != want) {
            fine = false;
            System.out.println("  " + name + ": " + call + " answered " + got + ", due is " + want);
        }
    }

    static void so(String what, boolean is) {
        due(what, is ? 1 : 0, 1);
    }

    static void close() {
        if (name == null) {
            return;
        }
        System.out.println((fine ? "ok      " : "FAILED  ") + name);
        if (fine) {
            passed++;
        } else {
            failed++;
        }
        name = null;
    }

    /** Prints the closing line; whether all passed. */
    static boolean report() {
        close();
        System.out.println(passed + " passed, " + failed + " failed");
        return failed == 0;
    }

    /** Feeds a text byte by byte: what the last feed answered. */
    static int feedText(PointsForAll x, String text) {
        int answer = 0;
        for (int i = 0; i < text.length(); i++) {
            answer = x.feed(1, text.charAt(i));
        }
        return answer;
    }

    static int wantText(PointsForAll x, String text) {
        feedText(x, text);
        return x.want();
    }

    /** One SORT of so many HEADS, with PURSE and BOOK, that wants the text. */
    static Subject one(String text, int heads, int pb) {
        return new Subject().wants(text).does("sort(" + heads + ", " + pb + ", 0)");
    }

    /** The same of one head. */
    static Subject one(String text, int pb) {
        return one(text, 1, pb);
    }

    /** A new object with WANTS. */
    static PointsForAll withWants(String... texts) {
        PointsForAll x = new PointsForAll();
        for (String text : texts) {
            if (wantText(x, text) < 0) {
                throw new IllegalStateException("no WANT: " + text);
            }
        }
        return x;
    }
}
