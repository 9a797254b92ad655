/** Boundaries of promises 34 to 39: SHELVES, ROWS, what is taken. */
final class ShelfEdges extends Checks {
    private static final long MIN = Long.MIN_VALUE;
    private static final int BYTES = 0, SHORTS = 1, INTS = 2, LONGS = 3, BOOLEANS = 4;

    static void run() {
        atFirst();
        keep();
        row();
        put();
        refusals();
        lowestBits();
        element();
        shift();
        shiftPlaces();
        shiftRefused();
        taken();
    }

    private static void atFirst() {
        edge(34, "SHELVES 0 .. 5 each hold nothing (at first)");
        Subject x = new Subject();
        for (int shelf = 0; shelf <= 5; shelf++) {
            x.refuses("taken(" + shelf + ", 0)", -11).refuses("put(" + shelf + ", 0, 1)", -11)
                .refuses("element(" + shelf + ", 0)", MIN);
        }
        x.refuses(BAD, "taken(6, 0)", "taken(-1, 0)", "put(6, 0, 1)", "put(-1, 0, 1)");
    }

    private static void keep() {
        edge(34, "A SHELF holds nothing (body -1), or a PURSE: 1. BAD.", "the PURSE");
        Subject x = new Subject().gives("keep(0, -1)", 1).refuses("keep(0, 0)", BAD).does("body(2)", "body(4)");
        x.gives("keep(0, 0)", 1).gives("taken(0, 0)", 2).gives("keep(0, 1)", 1).gives("taken(0, 0)", 4);
        x.refuses(BAD, "keep(0, 2)", "keep(0, -2)", "keep(0, MIN)", "keep(0, MAX)");
        x.gives("keep(0, -1)", 1).gives("taken(0, 0)", -11);
        Subject full = new Subject();
        for (int i = 0; i <= 49; i++) {
            full.does("body(7)");
        }
        full.refuses("keep(0, 50)", BAD).gives("keep(0, 49)", 1).gives("taken(0, 7)", 7);

        edge(34, "A SHELF holds nothing (body -1), or a PURSE: 1. BAD.", "the SHELF");
        x.gives("keep(0, 0)", 1).gives("keep(5, 0)", 1).gives("taken(5, 0)", 2).gives("taken(4, 0)", -11);
        x.refuses(BAD, "keep(-1, 0)", "keep(6, 0)", "keep(-1, -1)", "keep(6, -1)", "keep(MIN, 0)", "keep(MAX, 0)");
        x.gives("row(0, 0, 3)", 1).gives("keep(0, 1)", 1).gives("put(0, 0, 1)", -12).gives("keep(0, -1)", 1)
            .gives("put(0, 0, 1)", -11);
    }

    private static void row() {
        edge(35, "0 bytes, 1 shorts, 2 ints, 3 longs, 4 booleans");
        Subject x = new Subject().gives("row(0, 0, 1)", 1).gives("row(5, 4, 1)", 1);
        x.refuses(BAD, "row(0, -1, 1)", "row(0, 5, 1)", "row(0, MIN, 1)", "row(0, MAX, 1)");
        x.refuses(BAD, "row(-1, 0, 1)", "row(6, 0, 1)", "row(MIN, 0, 1)", "row(MAX, 0, 1)");

        edge(35, "of 0 .. 60 elements, 0 at first (false)");
        for (int sort = BYTES; sort <= BOOLEANS; sort++) {
            Subject y = new Subject().gives("row(0, " + sort + ", 0)", 1).refuses("put(0, 0, 1)", -13)
                .refuses("element(0, 0)", MIN);
            y.gives("row(0, " + sort + ", 60)", 1).gives("element(0, 0)", 0).gives("element(0, 59)", 0)
                .gives("element(0, 60)", MIN);
            for (int i = 0; i < 60; i++) {
                y.does("put(0, " + i + ", 1)");
            }
            y.gives("row(0, " + sort + ", 60)", 1);
            for (int i = 0; i < 60; i++) {
                y.gives("element(0, " + i + ")", 0);
            }
        }
        new Subject("row(0, 2, 2)", "put(0, 1, 7)", "row(0, 2, 1)", "row(0, 2, 2)").gives("element(0, 1)", 0);
        new Subject("row(0, 2, 2)", "put(0, 1, 7)", "keep(0, -1)", "row(0, 2, 2)").gives("element(0, 1)", 0);

        edge(35, "BAD (sort, n above 60); -14.");
        Subject z = new Subject("row(3, 2, 2)", "put(3, 1, 7)");
        z.refuses(BAD, "row(3, 2, 61)", "row(3, 2, MAX)").refuses(-14, "row(3, 2, -1)", "row(3, 2, MIN)");
        z.refuses(BAD, "row(3, 5, -1)", "row(3, -1, -1)", "row(6, 2, -1)", "row(-1, 2, -1)", "row(3, 5, 61)");
    }

    private static void put() {
        edge(36, "Element i of a ROW becomes v: 1. BAD, -11, -12, -13.", "the place");
        Subject x = new Subject("row(0, 3, 3)").gives("put(0, 0, 5)", 1).gives("put(0, 2, 7)", 1);
        x.gives("element(0, 0)", 5).gives("element(0, 1)", 0).gives("element(0, 2)", 7);
        x.refuses(-13, "put(0, -1, 1)", "put(0, 3, 1)", "put(0, 60, 1)", "put(0, MIN, 1)", "put(0, MAX, 1)");
        new Subject("row(5, 3, 60)").gives("put(5, 59, 5)", 1).gives("element(5, 59)", 5).refuses("put(5, 60, 1)", -13);

        edge(36, "Element i of a ROW becomes v: 1. BAD, -11, -12, -13.", "the SHELF and what it holds");
        Subject y = new Subject("body(0)", "keep(1, 0)", "row(2, 1, 1)");
        y.refuses(BAD, "put(-1, 0, 1)", "put(6, 0, 1)", "put(MIN, 0, 1)", "put(MAX, 0, 1)", "put(6, -1, 1)");
        y.refuses(-11, "put(0, 0, 1)", "put(0, -1, 1)", "put(0, 60, 1)")
            .refuses(-12, "put(1, 0, 1)", "put(1, -1, 1)", "put(1, 60, 1)");
        y.refuses("put(2, 1, 1)", -13).gives("put(2, 0, 1)", 1);
    }

    private static void refusals() {
        edge(36, "The host's REFUSALS: -11 nothing is there where something is wanted; -12 it is of another kind; -13 a place that is "
            + "not there; -14 a size below 0.");
        Subject x = new Subject("body(2)", "keep(0, 0)", "row(1, 1, 1)", "row(2, 2, 1)");
        x.refuses(-11, "put(3, 0, 1)", "shift(3, 0, 1, 0, 1)", "taken(3, 0)");
        x.refuses(-12, "put(0, 0, 1)", "shift(0, 0, 1, 0, 1)", "taken(0, 1)", "taken(1, 0)", "things(2, 0, 1)");
        x.refuses(-13, "put(1, 1, 1)", "shift(1, 0, 1, 1, 1)").refuses("row(1, 1, -1)", -14);
        x.gives("put(1, 0, 1)", 1).gives("shift(1, 0, 1, 0, 1)", 1).gives("taken(0, 2)", 2).gives("row(1, 1, 0)", 1);
    }

    private static void keeps(int sort, long v, long due) {
        new Subject("row(0, " + sort + ", 1)").gives("put(0, 0, " + v + ")", 1).gives("element(0, 0)", due);
    }

    private static void lowestBits() {
        String sentence = "what is put in keeps its lowest bits (a boolean: whether it is not 0; 1 or 0)";
        int[] bits = {8, 16, 32};
        String[] names = {"bytes", "shorts", "ints"};
        for (int sort = BYTES; sort <= INTS; sort++) {
            edge(36, sentence, names[sort]);
            long most = (1L << bits[sort] - 1) - 1;
            keeps(sort, most, most);
            keeps(sort, most + 1, -most - 1);
            keeps(sort, -most - 1, -most - 1);
            keeps(sort, -most - 2, most);
            keeps(sort, 2 * most + 1, -1);
            keeps(sort, 2 * most + 2, 0);
            keeps(sort, 2 * most + 3, 1);
            keeps(sort, Long.MAX_VALUE, -1);
            keeps(sort, Long.MIN_VALUE, 0);
            keeps(sort, -1, -1);
        }

        edge(36, sentence, "longs");
        for (long v : new long[] {0, 1, -1, 1L << 32, 1L << 31, -(1L << 31) - 1, Long.MAX_VALUE, Long.MIN_VALUE}) {
            keeps(LONGS, v, v);
        }

        edge(36, sentence, "booleans");
        keeps(BOOLEANS, 0, 0);
        for (long v : new long[] {1, -1, 2, 256, 1L << 32, Long.MAX_VALUE, Long.MIN_VALUE}) {
            keeps(BOOLEANS, v, 1);
        }
        new Subject("row(0, 4, 1)", "put(0, 0, 2)").gives("put(0, 0, 0)", 1).gives("element(0, 0)", 0);
    }

    private static void element() {
        edge(37, "Element i of a ROW; Long.MIN_VALUE: BAD, -11 to -13.");
        Subject x = new Subject("row(0, 2, 3)", "put(0, 0, 5)", "put(0, 2, 7)", "body(0)", "keep(1, 0)", "row(5, 2, 60)",
            "put(5, 59, 9)");
        x.gives("element(0, 0)", 5).gives("element(0, 2)", 7).gives("element(5, 59)", 9);
        x.refuses(MIN, "element(0, -1)", "element(0, 3)", "element(0, MIN)", "element(0, MAX)", "element(5, 60)");
        x.refuses(MIN, "element(-1, 0)", "element(6, 0)", "element(MIN, 0)", "element(MAX, 0)", "element(2, 0)",
            "element(1, 0)");
    }

    /** Shelf 0: 1 2 3 4 5; shelf 1: 6 7 8; both of a sort. */
    private static Subject rows(int sort) {
        Subject x = new Subject("row(0, " + sort + ", 5)", "row(1, " + sort + ", 3)");
        for (int i = 0; i < 8; i++) {
            x.does("put(" + i / 5 + ", " + i % 5 + ", " + (i + 1) + ")");
        }
        return x;
    }

    private static void holds(Subject x, int shelf, String digits) {
        for (int i = 0; i < digits.length(); i++) {
            x.gives("element(" + shelf + ", " + i + ")", digits.charAt(i) - '0');
        }
        x.gives("element(" + shelf + ", " + digits.length() + ")", MIN);
    }

    private static void shifted(String call, int n, String first, String second) {
        Subject x = rows(INTS).gives(call, n);
        holds(x, 0, first);
        holds(x, 1, second);
    }

    private static void shift() {
        String sentence = "n elements of a ROW from i on come to another one (or the same) from j on, as they all were before: n.";
        edge(38, sentence, "the same");
        shifted("shift(0, 0, 0, 1, 4)", 4, "11234", "678");
        shifted("shift(0, 1, 0, 0, 4)", 4, "23455", "678");
        shifted("shift(0, 0, 0, 2, 3)", 3, "12123", "678");
        shifted("shift(0, 2, 0, 0, 3)", 3, "34545", "678");
        shifted("shift(0, 0, 0, 0, 5)", 5, "12345", "678");

        edge(38, sentence, "another");
        shifted("shift(0, 0, 1, 0, 3)", 3, "12345", "123");
        shifted("shift(0, 2, 1, 0, 3)", 3, "12345", "345");
        shifted("shift(1, 0, 0, 0, 3)", 3, "67845", "678");
        shifted("shift(1, 0, 0, 2, 3)", 3, "12678", "678");
        for (int sort = BYTES; sort <= LONGS; sort++) {
            Subject x = rows(sort).gives("shift(0, 4, 1, 2, 1)", 1);
            holds(x, 1, "675");
        }
        Subject truths = rows(BOOLEANS).does("put(0, 0, 0)").gives("shift(0, 0, 1, 1, 1)", 1);
        holds(truths, 1, "101");

        edge(38, sentence, "none");
        rows(INTS).refuses(0, "shift(0, 0, 1, 0, 0)", "shift(0, 5, 1, 3, 0)", "shift(0, 0, 0, 5, 0)");
        new Subject("row(0, 2, 0)", "row(1, 2, 0)").refuses("shift(0, 0, 1, 0, 0)", 0).refuses("shift(0, 0, 1, 0, 1)", -13);
    }

    private static void shiftPlaces() {
        edge(38, "BAD, -11 (either), -12 (no ROWS, or of unlike sorts), -13.", "places");
        rows(INTS).refuses(-13, "shift(0, -1, 1, 0, 1)", "shift(0, 5, 1, 0, 1)", "shift(0, 4, 1, 0, 2)", "shift(0, 3, 1, 0, 3)",
            "shift(0, 6, 1, 0, 0)", "shift(0, -1, 1, 0, 0)");
        rows(INTS).refuses(-13, "shift(0, 0, 1, -1, 1)", "shift(0, 0, 1, 3, 1)", "shift(0, 0, 1, 2, 2)", "shift(0, 0, 1, 1, 3)",
            "shift(0, 0, 1, 4, 0)", "shift(0, 0, 1, -1, 0)");
        rows(INTS).refuses(-13, "shift(0, 0, 1, 0, -1)", "shift(0, 0, 1, 0, 4)", "shift(0, 0, 0, 0, 6)",
            "shift(0, 1, 1, 1, MIN)");
        rows(INTS).refuses(-13, "shift(0, MAX, 1, 0, 1)", "shift(0, 0, 1, MAX, 1)", "shift(0, 0, 1, 0, MAX)",
            "shift(0, MAX, 1, MAX, MAX)",
            "shift(0, MIN, 1, 0, 1)", "shift(0, 0, 1, MIN, 1)", "shift(0, MIN, 1, MIN, MIN)", "shift(0, 1, 0, 1, MAX)");
        shifted("shift(0, 4, 1, 2, 1)", 1, "12345", "675");
        new Subject("row(0, 0, 60)", "row(1, 0, 60)", "put(0, 59, 3)").gives("shift(0, 0, 1, 0, 60)", 60)
            .gives("element(1, 59)", 3)
            .gives("shift(0, 0, 1, 0, 61)", -13).gives("shift(0, 1, 1, 0, 60)", -13);
    }

    private static void shiftRefused() {
        edge(38, "BAD, -11 (either), -12 (no ROWS, or of unlike sorts), -13.", "the SHELVES and what they hold");
        Subject x = rows(INTS).does("row(3, 3, 5)", "body(0)", "keep(4, 0)", "keep(5, 0)");
        x.refuses(BAD, "shift(-1, 0, 1, 0, 1)", "shift(6, 0, 1, 0, 1)", "shift(0, 0, -1, 0, 1)", "shift(0, 0, 6, 0, 1)",
            "shift(MIN, 0, 1, 0, 1)", "shift(0, 0, MAX, 0, 1)", "shift(2, 0, 6, 0, 1)", "shift(6, 0, 2, 0, 1)",
            "shift(-1, 9, 4, 9, 1)");
        x.refuses(-11, "shift(2, 0, 0, 0, 1)", "shift(0, 0, 2, 0, 1)", "shift(2, 0, 2, 0, 0)", "shift(2, 0, 4, 0, 1)",
            "shift(4, 0, 2, 0, 1)", "shift(2, -1, 0, 0, 1)", "shift(0, 0, 2, 99, 1)");
        x.refuses(-12, "shift(4, 0, 0, 0, 1)", "shift(0, 0, 4, 0, 1)", "shift(4, 0, 5, 0, 0)", "shift(4, 0, 4, 0, 0)",
            "shift(0, 0, 3, 0, 1)", "shift(3, 0, 0, 0, 1)", "shift(0, -1, 3, 0, 1)", "shift(0, 0, 4, 0, -1)");
        for (int one = BYTES; one <= BOOLEANS; one++) {
            for (int other = BYTES; other <= BOOLEANS; other++) {
                Subject y = new Subject("row(0, " + one + ", 2)", "row(1, " + other + ", 2)");
                y.gives("shift(0, 0, 1, 0, 2)", one == other ? 2 : -12);
            }
        }
    }

    private static void taken() {
        edge(39, "taken for a PURSE of KIND k (0 .. 7), or under it: its KIND. BAD, -11, -12.", "the KINDS");
        String[] above = {"0", "10", "20", "320", "420", "5320", "60", "7420"};
        for (int kind = 0; kind <= 7; kind++) {
            Subject x = new Subject("body(" + kind + ")", "keep(0, 0)");
            for (int k = 0; k <= 7; k++) {
                x.refuses("taken(0, " + k + ")", above[kind].indexOf('0' + k) >= 0 ? kind : -12);
            }
        }

        edge(39, "taken for a PURSE of KIND k (0 .. 7), or under it: its KIND. BAD, -11, -12.", "what is refused");
        Subject x = new Subject("body(7)", "keep(0, 0)", "keep(5, 0)", "row(1, 1, 4)", "row(2, 0, 0)");
        x.gives("taken(0, 7)", 7).gives("taken(5, 0)", 7);
        x.refuses(BAD, "taken(0, -1)", "taken(0, 8)", "taken(0, MIN)", "taken(0, MAX)", "taken(-1, 0)", "taken(6, 0)",
            "taken(MIN, 0)", "taken(MAX, 0)", "taken(3, 8)", "taken(1, 8)", "taken(1, -1)");
        x.refuses(-11, "taken(3, 0)", "taken(4, 7)").refuses(-12, "taken(1, 0)", "taken(1, 1)", "taken(2, 0)", "taken(0, 5)");
    }
}
