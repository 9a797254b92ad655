/** Promises 34 to 39: SHELVES, ROWS and PURSES on them. */
final class ShelvesTest extends Checks {
    private static final long FAR = Long.MIN_VALUE;

    static void run() {
        keep();
        row();
        put();
        lowestBits();
        element();
        shift();
        shiftRefused();
        taken();
    }

    private static void keep() {
        test("promise 34: keep");
        PointsForAll x = new PointsForAll();
        due("no PURSE yet", x.keep(0, 0), BAD);
        due("nothing", x.keep(0, -1), 1);
        x.body(4);
        due("a PURSE", x.keep(0, 0), 1);
        due("taken", x.taken(0, 4), 4);
        due("no such PURSE", x.keep(0, 1), BAD);
        due("far below", x.keep(0, -2), BAD);
        due("shelf below", x.keep(-1, 0), BAD);
        due("shelf above", x.keep(6, 0), BAD);
        due("shelf above, nothing", x.keep(6, -1), BAD);
        due("it stays there", x.taken(0, 4), 4);
        due("the last shelf", x.keep(5, 0), 1);
        due("nothing again", x.keep(0, -1), 1);
        due("nothing there", x.taken(0, 4), -11);
        x.row(0, 0, 3);
        due("in a row's stead", x.keep(0, 0), 1);
        due("a PURSE", x.element(0, 0), FAR);
    }

    private static void row() {
        test("promise 35: row");
        PointsForAll x = new PointsForAll();
        due("shelf below", x.row(-1, 0, 1), BAD);
        due("shelf above", x.row(6, 0, 1), BAD);
        due("sort below", x.row(0, -1, 1), BAD);
        due("sort above", x.row(0, 5, 1), BAD);
        due("n above", x.row(0, 0, 61), BAD);
        due("n far above", x.row(0, 0, Integer.MAX_VALUE), BAD);
        due("n below", x.row(0, 0, -1), -14);
        due("n far below", x.row(0, 0, Integer.MIN_VALUE), -14);
        due("BAD ahead of -14", x.row(0, 5, -1), BAD);
        due("BAD ahead of -14", x.row(6, 0, -1), BAD);
        due("nothing there yet", x.put(0, 0, 1), -11);
        due("none", x.row(0, 0, 0), 1);
        due("no place", x.put(0, 0, 1), -13);
        due("60", x.row(0, 4, 60), 1);
        due("the last", x.put(0, 59, 1), 1);
        due("the first", x.put(0, 0, 1), 1);
        due("behind it", x.put(0, 60, 1), -13);
        due("the last is there", x.element(0, 59), 1);
        due("the first is there", x.element(0, 0), 1);
        due("a row anew", x.row(0, 4, 60), 1);
        due("0 again", x.element(0, 59), 0);
        due("0 again", x.element(0, 0), 0);
    }

    private static void put() {
        test("promise 36: put");
        PointsForAll x = new PointsForAll();
        due("shelf below", x.put(-1, 0, 1), BAD);
        due("shelf above", x.put(6, 0, 1), BAD);
        due("nothing there", x.put(0, 0, 1), -11);
        due("nothing there, at no place", x.put(0, -1, 1), -11);
        x.body(0);
        x.keep(0, 0);
        due("a PURSE", x.put(0, 0, 1), -12);
        due("a PURSE, at no place", x.put(0, 99, 1), -12);
        x.row(0, 3, 2);
        due("place below", x.put(0, -1, 1), -13);
        due("place above", x.put(0, 2, 1), -13);
        due("place far above", x.put(0, Integer.MAX_VALUE, 1), -13);
        due("put", x.put(0, 1, Long.MAX_VALUE), 1);
        due("there", x.element(0, 1), Long.MAX_VALUE);
        due("and only there", x.element(0, 0), 0);
    }

    private static void lowestBits() {
        test("promise 36: what is put in keeps its lowest bits");
        long[] values = {0, 1, -1, 127, 128, 255, 256, 32767, 32768, 65536, 2147483647L, 2147483648L, 4294967296L,
            Long.MAX_VALUE, Long.MIN_VALUE, -129, -32769};
        PointsForAll x = new PointsForAll();
        for (int sort = 0; sort < 5; sort++) {
            x.row(sort, sort, 1);
        }
        for (long v : values) {
            for (int sort = 0; sort < 5; sort++) {
                due("put", x.put(sort, 0, v), 1);
            }
            due("byte of " + v, x.element(0, 0), (byte) v);
            due("short of " + v, x.element(1, 0), (short) v);
            due("int of " + v, x.element(2, 0), (int) v);
            due("long of " + v, x.element(3, 0), v);
            due("boolean of " + v, x.element(4, 0), v == 0 ? 0 : 1);
        }
    }

    private static void element() {
        test("promise 37: element");
        PointsForAll x = new PointsForAll();
        due("shelf below", x.element(-1, 0), FAR);
        due("shelf above", x.element(6, 0), FAR);
        due("nothing there", x.element(0, 0), FAR);
        x.body(0);
        x.keep(0, 0);
        due("a PURSE", x.element(0, 0), FAR);
        x.row(0, 2, 3);
        due("0 at first", x.element(0, 2), 0);
        due("place below", x.element(0, -1), FAR);
        due("place above", x.element(0, 3), FAR);
        x.put(0, 2, -5);
        due("as put", x.element(0, 2), -5);
    }

    private static PointsForAll withRows() {
        PointsForAll x = new PointsForAll();
        x.row(0, 2, 5);
        x.row(1, 2, 3);
        for (int i = 0; i < 5; i++) {
            x.put(0, i, i + 1);
        }
        for (int i = 0; i < 3; i++) {
            x.put(1, i, 7 + i);
        }
        return x;
    }

    private static void holds(PointsForAll x, int shelf, int... values) {
        for (int i = 0; i < values.length; i++) {
            due("element " + i + " of " + shelf, x.element(shelf, i), values[i]);
        }
    }

    private static void shift() {
        test("promise 38: shift");
        PointsForAll x = withRows();
        due("to another", x.shift(0, 1, 1, 0, 2), 2);
        holds(x, 0, 1, 2, 3, 4, 5);
        holds(x, 1, 2, 3, 9);
        due("upward in the same", x.shift(0, 0, 0, 1, 4), 4);
        holds(x, 0, 1, 1, 2, 3, 4);
        due("downward in the same", x.shift(0, 1, 0, 0, 4), 4);
        holds(x, 0, 1, 2, 3, 4, 4);
        due("none, at the ends", x.shift(0, 5, 1, 3, 0), 0);
        due("all", x.shift(1, 0, 0, 2, 3), 3);
        holds(x, 0, 1, 2, 2, 3, 9);
    }

    private static void shiftRefused() {
        test("promise 38: shift refused");
        PointsForAll x = withRows();
        due("from below", x.shift(0, -1, 1, 0, 1), -13);
        due("to below", x.shift(0, 0, 1, -1, 1), -13);
        due("n below", x.shift(0, 0, 1, 0, -1), -13);
        due("from above", x.shift(0, 6, 1, 0, 0), -13);
        due("to above", x.shift(0, 0, 1, 4, 0), -13);
        due("from beyond", x.shift(0, 4, 1, 0, 2), -13);
        due("to beyond", x.shift(0, 0, 1, 2, 2), -13);
        due("far above", x.shift(0, Integer.MAX_VALUE, 1, 0, Integer.MAX_VALUE), -13);
        due("far above", x.shift(0, 1, 1, 1, Integer.MAX_VALUE), -13);
        due("far below", x.shift(0, Integer.MIN_VALUE, 1, 0, Integer.MIN_VALUE), -13);
        holds(x, 0, 1, 2, 3, 4, 5);
        holds(x, 1, 7, 8, 9);
        due("shelf below", x.shift(-1, 0, 1, 0, 1), BAD);
        due("shelf above", x.shift(6, 0, 1, 0, 1), BAD);
        due("other below", x.shift(0, 0, -1, 0, 1), BAD);
        due("other above", x.shift(0, 0, 6, 0, 1), BAD);
        due("BAD ahead of -11", x.shift(2, 0, 6, 0, 1), BAD);
        due("from nothing", x.shift(2, 0, 1, 0, 1), -11);
        due("to nothing", x.shift(0, 0, 2, 0, 1), -11);
        x.body(0);
        x.keep(3, 0);
        due("-11 ahead of -12", x.shift(3, 0, 2, 0, 1), -11);
        due("from a PURSE", x.shift(3, 0, 0, 0, 1), -12);
        due("to a PURSE", x.shift(0, 0, 3, 0, 1), -12);
        due("PURSES both", x.shift(3, 0, 3, 0, 0), -12);
        x.row(4, 3, 5);
        due("of unlike sorts", x.shift(0, 0, 4, 0, 1), -12);
        due("-12 ahead of -13", x.shift(0, 9, 4, 0, 1), -12);
        x.row(5, 0, 2);
        x.row(4, 4, 2);
        due("bytes and booleans", x.shift(5, 0, 4, 0, 1), -12);
    }

    private static void taken() {
        test("promise 39: taken");
        int[][] under = {{0}, {1, 0}, {2, 0}, {3, 2, 0}, {4, 2, 0}, {5, 3, 2, 0}, {6, 0}, {7, 4, 2, 0}};
        PointsForAll x = new PointsForAll();
        for (int kind = 0; kind < 8; kind++) {
            x.body(kind);
            x.keep(1, kind);
            for (int k = 0; k < 8; k++) {
                boolean is = false;
                for (int above : under[kind]) {
                    is |= above == k;
                }
                due("kind " + kind + " as " + k, x.taken(1, k), is ? kind : -12);
            }
        }
        due("shelf below", x.taken(-1, 0), BAD);
        due("shelf above", x.taken(6, 0), BAD);
        due("kind below", x.taken(1, -1), BAD);
        due("kind above", x.taken(1, 8), BAD);
        due("nothing there", x.taken(0, 0), -11);
        x.row(0, 1, 4);
        due("a row", x.taken(0, 0), -12);
        due("BAD ahead of -11", x.taken(2, 8), BAD);
    }
}
