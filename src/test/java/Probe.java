import java.util.ArrayList;
import java.util.List;

/** Every answer by which two objects could be told apart; what a look would change is looked at last. */
final class Probe {
    private final PointsForAll x;
    private final List<String> answers = new ArrayList<>();
    private long things;
    private long sorts;

    private Probe(PointsForAll x) {
        this.x = x;
    }

    /** One text for each call that was made, with its answer. */
    static List<String> answersOf(PointsForAll x) {
        Probe probe = new Probe(x);
        probe.counts();
        probe.trace();
        probe.numbers();
        probe.wishes();
        probe.shelves();
        probe.changes();
        probe.toldBaskets();
        probe.sortsOfRows();
        probe.tape();
        probe.whatComesNext();
        return probe.answers;
    }

    private long ask(String call) {
        long answer = Subject.answer(x, call);
        answers.add(call + " " + answer);
        return answer;
    }

    private void counts() {
        things = ask("count(0)");
        sorts = ask("count(1)");
        for (int what = 2; what <= 6; what++) {
            ask("count(" + what + ")");
        }
    }

    private void trace() {
        int i = 0;
        while (i < 24 && ask("trace(" + i + ")") != PointsForAll.BAD) {
            i++;
        }
    }

    private void numbers() {
        for (int thing = 0; thing < things; thing++) {
            for (int what = 0; what <= 3; what++) {
                ask("of(" + thing + ", " + what + ")");
            }
        }
        for (int sort = 0; sort < sorts; sort++) {
            for (int what = 10; what <= 14; what++) {
                ask("of(" + sort + ", " + what + ")");
            }
        }
    }

    private void wishes() {
        for (int sort = 0; sort < sorts; sort++) {
            for (int k = 1; k <= 3; k++) {
                ask("worth(" + sort + ", " + k + ")");
            }
            ask("basket(" + sort + ", 0)");
        }
        ask("judge()");
    }

    private void shelves() {
        for (int shelf = 0; shelf < 6; shelf++) {
            ask("taken(" + shelf + ", 0)");
            ask("shift(" + shelf + ", 0, " + (shelf + 1) % 6 + ", 0, 0)");
            int i = 0;
            while (i < 60 && ask("element(" + shelf + ", " + i + ")") != Long.MIN_VALUE) {
                i++;
            }
        }
    }

    private void changes() {
        int undone = 0;
        while (undone < 40 && ask("undo()") > 0) {
            undone++;
        }
        numbers();
        int again = 0;
        while (again < 40 && ask("redo()") > 0) {
            again++;
        }
        numbers();
    }

    private void toldBaskets() {
        for (int sort = 0; sort < sorts; sort++) {
            ask("tell(" + sort + ", 0)");
        }
    }

    private void sortsOfRows() {
        for (int shelf = 0; shelf < 6; shelf++) {
            ask("put(" + shelf + ", 0, " + (1L << 40 | 0x8181) + ")");
            ask("element(" + shelf + ", 0)");
        }
    }

    private void tape() {
        long want = ask("want()");
        ask("count(3)");
        long sort = want >= 0 ? ask("sort(1, 0, " + want + ")") : PointsForAll.NOT;
        if (sort >= 0) {
            ask("worth(" + sort + ", 2)");
        }
    }

    private void whatComesNext() {
        ask("feed(1, 49)");
        ask("thing(1, 203, 4)");
        ask("sort(1, 203, 0)");
        ask("body(7)");
        ask("act(0, 3, 5)");
        ask("count(6)");
    }
}
