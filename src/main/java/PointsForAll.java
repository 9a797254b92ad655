/** Points for everything: things priced in coin and in points, sorts of people, and what they buy. */
public final class PointsForAll {
    public static final int BAD = -1, NOT = -2, FULL = -3, BIG = -4, STATE = -5, VOID = -2000000000;

    private static final int NOTHING_THERE = -11, OTHER_KIND = -12, NO_PLACE = -13, BELOW_ZERO = -14;

    private static final int THINGS = 6, SORTS = 5, WANTS = 4, MOST_OF_ONE = 3;
    private static final int TAPE = 120, STEPS = TAPE + 1, DEEPEST = 6;
    private static final int CHANGES = 40, BODIES = 50, KINDS = 8, TRACE = 24;
    private static final int SHELVES = 6, ELEMENTS = 60;

    // What stands of a THING (0 .. 3) and of a SORT (4 .. 8), each in a column of its own.
    private static final int MANY = 0, COIN = 1, POINTS = 2, MADE = 3;
    private static final int HEADS = 4, PURSE = 5, BOOK = 6, BABIES = 7, WANT = 8, COLUMNS = 9;

    // What a SHELF holds: a sort of ROW is held as 0 .. 4.
    private static final int NOTHING = -1, SHORTS = 1, BOOLEANS = 4, A_PURSE = 5;

    // A lacking point at this price is dearer than any PURSE.
    private static final int FORBIDDEN = 100;

    private static final int MOST_POINTS_IN_ALL = 129;

    private final Stock stock;
    private final History history;
    private final Tape tape;
    private final Wants wants;
    private final Thought thought;
    private final Market market;
    private final Deals deals;
    private final Purses purses;
    private final Shelves shelves;

    public PointsForAll() {
        stock = new Stock();
        history = new History(stock);
        tape = new Tape();
        wants = new Wants();
        thought = new Thought(stock, wants);
        market = new Market(stock, thought);
        deals = new Deals(stock, thought);
        purses = new Purses();
        shelves = new Shelves();
    }

    // ---- things, sorts

    public int thing(int many, int cp, int made) {
        if (!isWithin(many, 0, 999) || !isWithin(cp, 0, 9999) || !isWithin(made, 0, 99)) {
            return BAD;
        }
        return stock.addThing(many, cp / 100, cp % 100, made);
    }

    public int things(int shelf, int i, int n) {
        if (!shelves.isShelf(shelf) || !isWithin(n, 1, 6)) {
            return BAD;
        }
        int held = shelves.heldOn(shelf);
        if (held == NOTHING) {
            return 0;
        }
        if (held != SHORTS) {
            return OTHER_KIND;
        }
        int came = 0;
        while (came < n && comesFrom(shelf, i + 4 * came)) {
            came++;
        }
        return came;
    }

    public int mend(int thing, int what, int v) {
        if (!stock.hasThing(thing) || !isWithin(what, 0, 2) || !isWithin(v, 0, what == 0 ? 999 : 99)) {
            return BAD;
        }
        return history.change(MANY + what, thing, v);
    }

    public int sort(int heads, int pb, int bw) {
        if (!isWithin(heads, 1, 99) || !isWithin(pb, 0, 9999) || !isWithin(bw, 0, 39)) {
            return BAD;
        }
        if (bw % 10 >= wants.known()) {
            return BAD;
        }
        return stock.addSort(heads, pb, bw);
    }

    public int purse(int sort, int what, int v) {
        if (!stock.hasSort(sort) || !isWithin(what, 0, 1) || !isWithin(v, 0, 99)) {
            return BAD;
        }
        return history.change(PURSE + what, sort, v);
    }

    public int of(int number, int what) {
        if (isWithin(what, 0, 3)) {
            return stock.hasThing(number) ? stock.at(MANY + what, number) : BAD;
        }
        if (!isWithin(what, 10, 14) || !stock.hasSort(number)) {
            return BAD;
        }
        return what == 12 ? stock.pointsInAll(number) : stock.at(HEADS + what - 10, number);
    }

    public int feed(int n, int v) {
        if (!isWithin(n, 1, 4)) {
            return BAD;
        }
        return tape.take(n, v);
    }

    public int want() {
        if (wants.known() >= WANTS) {
            return FULL;
        }
        boolean fine = tape.reads();
        int answer = fine ? wants.learn(tape) : -100 - tape.place();
        tape.empty();
        return answer;
    }

    public int worth(int sort, int tk) {
        if (!stock.hasSort(sort) || tk < 0 || !stock.hasThing(tk / 10) || !isWithin(tk % 10, 1, 3)) {
            return BAD;
        }
        thought.recall();
        return thought.worthOf(sort, tk / 10, tk % 10);
    }

    // ---- baskets

    public int basket(int sort, int what) {
        if (!stock.hasSort(sort) || !isWithin(what, 0, 3)) {
            return BAD;
        }
        thought.recall();
        thought.weigh(sort);
        thought.choose(sort);
        switch (what) {
            case 0: return thought.bestDigits;
            case 1: return thought.bestWorth;
            case 2: return thought.bestCost;
            default: return thought.bestPoints;
        }
    }

    public int wanted(int thing, int what) {
        boolean together = thing == -1 && what == 1;
        if (!together && (!stock.hasThing(thing) || !isWithin(what, 0, 1))) {
            return VOID;
        }
        thought.recall();
        market.wantAll();
        if (together) {
            return market.bothTogether();
        }
        return what == 0 ? market.wantedOf(thing) : market.overOf(thing);
    }

    public int led(int thing, int sort) {
        if (!stock.hasThing(thing) || !stock.hasSort(sort)) {
            return BAD;
        }
        thought.recall();
        thought.weigh(sort);
        thought.choose(sort);
        return stock.at(HEADS, sort) * stock.digitOf(thought.bestDigits, thing);
    }

    public int found(int rounds, int what) {
        if (!isWithin(rounds, 1, 60) || !isWithin(what, -4, stock.things - 1)) {
            return BAD;
        }
        market.findPoints(rounds);
        switch (what) {
            case -1: return market.moved;
            case -2: return market.bothTogether();
            case -3: return market.leastBoth;
            case -4: return market.leastRound;
            default: return thought.pointsOf(what);
        }
    }

    public int set(int rounds) {
        if (!isWithin(rounds, 1, 60)) {
            return BAD;
        }
        market.findPoints(rounds);
        for (int thing = 0; thing < stock.things; thing++) {
            history.change(POINTS, thing, market.leastPointsOf(thing));
        }
        return market.leastBoth;
    }

    public int tell(int sort, int digits) {
        if (!stock.hasSort(sort) || !stock.isBasket(digits)) {
            return BAD;
        }
        return market.hear(sort, digits);
    }

    public int judge() {
        return market.judged();
    }

    // ---- changing, beside, fewest

    public int changed(int sort, int rate, int what) {
        if (!stock.hasSort(sort) || !isWithin(rate, 1, 99) || !isWithin(what, 0, 1)) {
            return BAD;
        }
        deals.exchange(sort, rate);
        int worth = thought.bestWorth;
        if (what == 0) {
            return worth;
        }
        return worth - deals.plainWorth(sort);
    }

    public int free() {
        int there = deals.pointsThere();
        for (int rate = 1; rate <= 99; rate++) {
            if (deals.pointsTaken(rate) <= there) {
                return rate;
            }
        }
        return NOT;
    }

    public int black(int sort, int rf, int caught) {
        if (!stock.hasSort(sort) || !isWithin(rf, 100, 9999) || !isWithin(caught, 0, 100)) {
            return BAD;
        }
        return deals.byStealth(sort, rf / 100, rf % 100, caught);
    }

    public int beside(int sort, int c) {
        if (!stock.hasSort(sort) || !isShare(c)) {
            return BAD;
        }
        return deals.otherwise(sort, c);
    }

    public int loses(int c) {
        return isShare(c) ? deals.losers(c) : BAD;
    }

    public int fewest() {
        for (int size = 0; size <= stock.things; size++) {
            for (int set = 0; set < 1 << stock.things; set++) {
                if (Integer.bitCount(set) == size && market.servesAll(set)) {
                    return set;
                }
            }
        }
        return NOT;
    }

    public int least(int thing) {
        return stock.hasThing(thing) ? market.takersOf(thing) : BAD;
    }

    // ---- months, what is wrong

    public int months(int sort, int m, int lent, int what) {
        if (!stock.hasSort(sort) || !isWithin(m, 1, 12) || !isWithin(lent, 0, 99) || !isWithin(what, 0, 1)) {
            return BAD;
        }
        deals.live(sort, m, lent);
        return what == 0 ? deals.worthLived : deals.lapsed;
    }

    public int foresight(int sort) {
        return stock.hasSort(sort) ? deals.gainByForesight(sort) : BAD;
    }

    public int cheap(int m) {
        return isWithin(m, 0, 99) ? market.cheapest(m) : BAD;
    }

    public int wrong(int what) {
        if (!isWithin(what, 0, 2)) {
            return VOID;
        }
        int thing = market.findWorst();
        if (what == 0 || thing == NOT) {
            return thing;
        }
        return what == 1 ? market.offOf(thing) : Integer.compare(0, market.overOf(thing));
    }

    public int undo() {
        return history.goBack();
    }

    public int redo() {
        return history.goOn();
    }

    // ---- acts, shelves

    public int body(int kind) {
        return isWithin(kind, 0, KINDS - 1) ? purses.add(kind) : BAD;
    }

    public int act(int body, int act, int x) {
        purses.forget();
        if (!purses.has(body) || !isWithin(act, 0, 3)) {
            return 0;
        }
        return purses.start(body, act, x);
    }

    public int trace(int i) {
        return purses.traced(i);
    }

    public int keep(int shelf, int body) {
        if (!shelves.isShelf(shelf) || (body != -1 && !purses.has(body))) {
            return BAD;
        }
        shelves.hold(shelf, body == -1 ? NOTHING : A_PURSE, body);
        return 1;
    }

    public int row(int shelf, int sort, int n) {
        if (!shelves.isShelf(shelf) || !isWithin(sort, 0, BOOLEANS) || n > ELEMENTS) {
            return BAD;
        }
        if (n < 0) {
            return BELOW_ZERO;
        }
        shelves.hold(shelf, sort, n);
        return 1;
    }

    public int put(int shelf, int i, long v) {
        int refusal = shelves.refusalOf(shelf, i);
        if (refusal != 0) {
            return refusal;
        }
        shelves.write(shelf, i, v);
        return 1;
    }

    public long element(int shelf, int i) {
        return shelves.refusalOf(shelf, i) == 0 ? shelves.read(shelf, i) : Long.MIN_VALUE;
    }

    public int shift(int shelf, int i, int other, int j, int n) {
        int refusal = shelves.refusalOfTwo(shelf, other);
        if (refusal != 0) {
            return refusal;
        }
        if (!shelves.holdsPart(shelf, i, n) || !shelves.holdsPart(other, j, n)) {
            return NO_PLACE;
        }
        shelves.copy(shelf, i, other, j, n);
        return n;
    }

    public int taken(int shelf, int k) {
        if (!shelves.isShelf(shelf) || !isWithin(k, 0, KINDS - 1)) {
            return BAD;
        }
        int held = shelves.heldOn(shelf);
        if (held == NOTHING) {
            return NOTHING_THERE;
        }
        int kind = held == A_PURSE ? purses.kindOf(shelves.sizeOn(shelf)) : -1;
        return purses.isUnder(kind, k) ? kind : OTHER_KIND;
    }

    public int count(int what) {
        switch (what) {
            case 0: return stock.things;
            case 1: return stock.sorts;
            case 2: return wants.known();
            case 3: return tape.length;
            case 4: return history.done;
            case 5: return purses.kept;
            case 6: return purses.ran;
            default: return BAD;
        }
    }

    private boolean comesFrom(int shelf, int i) {
        if (!shelves.holdsPart(shelf, i, 4)) {
            return false;
        }
        int many = (int) shelves.read(shelf, i);
        int coin = (int) shelves.read(shelf, i + 1);
        int points = (int) shelves.read(shelf, i + 2);
        int made = (int) shelves.read(shelf, i + 3);
        boolean so = isWithin(many, 0, 999) && isWithin(coin, 0, 99) && isWithin(points, 0, 99) && isWithin(made, 0, 99);
        return so && stock.addThing(many, coin, points, made) != FULL;
    }

    private static boolean isShare(int c) {
        return c == 0 || isWithin(c, 100, 900);
    }

    private static boolean isWithin(int v, int low, int high) {
        return v >= low && v <= high;
    }

    /** All numbers of THINGS and SORTS. */
    private static final class Stock {
        private final int[][] cells = new int[COLUMNS][THINGS];
        int things;
        int sorts;

        boolean hasThing(int thing) {
            return isWithin(thing, 0, things - 1);
        }

        boolean hasSort(int sort) {
            return isWithin(sort, 0, sorts - 1);
        }

        int at(int column, int i) {
            if (!isWithin(column, 0, COLUMNS - 1) || !isWithin(i, 0, THINGS - 1)) {
                return 0;
            }
            return cells[column][i];
        }

        void write(int column, int i, int v) {
            if (isWithin(column, 0, COLUMNS - 1) && isWithin(i, 0, THINGS - 1)) {
                cells[column][i] = v;
            }
        }

        int addThing(int many, int coin, int points, int made) {
            if (things >= THINGS) {
                return FULL;
            }
            write(MANY, things, many);
            write(COIN, things, coin);
            write(POINTS, things, points);
            write(MADE, things, made);
            return things++;
        }

        int addSort(int heads, int pb, int bw) {
            if (sorts >= SORTS) {
                return FULL;
            }
            write(HEADS, sorts, heads);
            write(PURSE, sorts, pb / 100);
            write(BOOK, sorts, pb % 100);
            write(BABIES, sorts, bw / 10);
            write(WANT, sorts, bw % 10);
            return sorts++;
        }

        int pointsInAll(int sort) {
            return at(BOOK, sort) + 10 * at(BABIES, sort);
        }

        int allHeads() {
            int heads = 0;
            for (int sort = 0; sort < sorts; sort++) {
                heads += at(HEADS, sort);
            }
            return heads;
        }

        int digitOf(int digits, int thing) {
            int rest = digits;
            for (int behind = things - 1; behind > thing; behind--) {
                rest /= 10;
            }
            return rest % 10;
        }

        boolean isBasket(int digits) {
            int rest = digits;
            for (int thing = 0; thing < things; thing++) {
                if (rest % 10 > MOST_OF_ONE) {
                    return false;
                }
                rest /= 10;
            }
            return digits >= 0 && rest == 0;
        }
    }

    /** CHANGES, the latest last: first those that may be UNDONE, behind them those that may be DONE AGAIN. */
    private static final class History {
        private final Stock stock;
        private final int[] column = new int[CHANGES];
        private final int[] index = new int[CHANGES];
        private final int[] before = new int[CHANGES];
        private final int[] after = new int[CHANGES];
        int done;
        private int undone;

        History(Stock stock) {
            this.stock = stock;
        }

        int change(int where, int i, int v) {
            int was = stock.at(where, i);
            if (was != v) {
                note(where, i, was, v);
                stock.write(where, i, v);
            }
            return was;
        }

        int goBack() {
            if (done <= 0) {
                return STATE;
            }
            done--;
            undone++;
            stock.write(column[done], index[done], before[done]);
            return done;
        }

        int goOn() {
            if (undone <= 0 || done >= CHANGES) {
                return STATE;
            }
            stock.write(column[done], index[done], after[done]);
            done++;
            undone--;
            return undone;
        }

        private void note(int where, int i, int was, int v) {
            if (done >= CHANGES) {
                dropFirst();
            }
            column[done] = where;
            index[done] = i;
            before[done] = was;
            after[done] = v;
            done++;
            undone = 0;
        }

        private void dropFirst() {
            for (int i = 1; i < CHANGES; i++) {
                column[i - 1] = column[i];
                index[i - 1] = index[i];
                before[i - 1] = before[i];
                after[i - 1] = after[i];
            }
            done = CHANGES - 1;
        }
    }

    /** THE TAPE, and the reading of its TEXT into steps: values first, the sign that joins them behind. */
    private static final class Tape {
        // The signs by which a TEXT's parts bind, from the loosest on.
        private static final int COMPARED = 2, ONE = 5;

        private final int[] bytes = new int[TAPE];
        int length;
        private int at;
        private final int[] steps = new int[STEPS];
        private int written;

        int take(int n, int v) {
            if (length + n > TAPE) {
                return FULL;
            }
            for (int i = 0; i < n && length < TAPE; i++) {
                bytes[length] = v >> 8 * i & 255;
                length++;
            }
            return length;
        }

        void empty() {
            length = 0;
        }

        /** Where reading stopped: the FAULT, when the TEXT is not fine. */
        int place() {
            return at;
        }

        int size() {
            return written;
        }

        int stepAt(int i) {
            return isWithin(i, 0, STEPS - 1) ? steps[i] : 0;
        }

        boolean reads() {
            at = 0;
            written = 0;
            boolean fine = readLine();
            for (int line = 0; fine && line < TAPE && here() == ';'; line++) {
                at++;
                fine = readLine();
            }
            return fine && at == length;
        }

        private boolean readLine() {
            boolean fine = readLevel(0, 0);
            if (fine && here() == '?') {
                at++;
                write(-'?');
                fine = readLevel(0, 0);
            }
            write(-';');
            return fine;
        }

        private boolean readLevel(int level, int open) {
            if (level >= ONE) {
                return readOne(open);
            }
            boolean fine = readLevel(level + 1, open);
            int most = level == COMPARED ? 1 : TAPE;
            for (int turn = 0; fine && turn < most && levelOf(here()) == level; turn++) {
                int sign = here();
                at++;
                fine = readLevel(level + 1, open);
                write(-sign);
            }
            return fine;
        }

        private boolean readOne(int open) {
            int sign = here();
            if (isWithin(sign, '0', '9')) {
                readNumber();
                return true;
            }
            if (isName(sign)) {
                at++;
                write(-sign);
                return true;
            }
            if ((sign != '!' && sign != '-' && sign != '(') || open >= DEEPEST) {
                return false;
            }
            at++;
            return sign == '(' ? readInside(open + 1) : readSigned(sign, open + 1);
        }

        private boolean readInside(int open) {
            if (!readLevel(0, open) || here() != ')') {
                return false;
            }
            at++;
            return true;
        }

        private boolean readSigned(int sign, int open) {
            boolean fine = readOne(open);
            // The minus ahead of one gets a sign of its own, for - stands between two already.
            write(sign == '-' ? -'~' : -sign);
            return fine;
        }

        private void readNumber() {
            int value = 0;
            for (int digit = 0; digit < 4 && isWithin(here(), '0', '9'); digit++) {
                value = value * 10 + here() - '0';
                at++;
            }
            write(value);
        }

        private int here() {
            return at < length && at < TAPE ? bytes[at] : -1;
        }

        private void write(int step) {
            if (written < STEPS) {
                steps[written] = step;
                written++;
            }
        }

        private static boolean isName(int sign) {
            switch (sign) {
                case 't': case 'k': case 'c': case 'p': case 's': case 'b': case 'n': return true;
                default: return false;
            }
        }

        private static int levelOf(int sign) {
            switch (sign) {
                case '|': return 0;
                case '&': return 1;
                case '<': case '=': case '>': return COMPARED;
                case '+': case '-': return 3;
                case '*': case '/': case '%': return 4;
                default: return -1;
            }
        }
    }

    /** The WANTS as steps, and what they come to. */
    private static final class Wants {
        private static final int SIGNS = 128;

        private final int[][] steps = new int[WANTS][STEPS];
        private final int[] sizes = new int[WANTS];
        private int count;
        private final int[] named = new int[SIGNS];
        private final int[] stack = new int[STEPS];
        private int top;

        int known() {
            return count;
        }

        int learn(Tape tape) {
            if (count >= WANTS) {
                return FULL;
            }
            int size = Math.min(tape.size(), STEPS);
            for (int i = 0; i < size; i++) {
                steps[count][i] = tape.stepAt(i);
            }
            sizes[count] = size;
            return count++;
        }

        void name(char sign, int v) {
            if (sign < SIGNS) {
                named[sign] = v;
            }
        }

        /** What the first LINE that counts comes to, by the names as told. */
        int workOut(int want) {
            if (!isWithin(want, 0, count - 1)) {
                return 0;
            }
            top = 0;
            boolean passed = false;
            for (int i = 0; i < sizes[want]; i++) {
                int step = steps[want][i];
                if (step == -';') {
                    if (!passed) {
                        return pop();
                    }
                    passed = false;
                } else if (step == -'?') {
                    passed = pop() == 0;
                } else if (!passed) {
                    doStep(step);
                }
            }
            return 0;
        }

        private void doStep(int step) {
            if (step >= 0) {
                push(step);
            } else if (Tape.isName(-step)) {
                push(named[-step]);
            } else if (step == -'!') {
                push(pop() == 0 ? 1 : 0);
            } else if (step == -'~') {
                push(-pop());
            } else {
                int second = pop();
                push(joined(-step, pop(), second));
            }
        }

        private static int joined(int sign, int a, int b) {
            switch (sign) {
                case '|': return a != 0 || b != 0 ? 1 : 0;
                case '&': return a != 0 && b != 0 ? 1 : 0;
                case '<': return a < b ? 1 : 0;
                case '=': return a == b ? 1 : 0;
                case '>': return a > b ? 1 : 0;
                case '+': return a + b;
                case '-': return a - b;
                case '*': return a * b;
                case '/': return b == 0 ? 0 : a / b;
                case '%': return b == 0 ? 0 : a % b;
                default: return 0;
            }
        }

        private void push(int v) {
            if (top < STEPS) {
                stack[top] = v;
                top++;
            }
        }

        private int pop() {
            if (top <= 0) {
                return 0;
            }
            top--;
            return stack[top];
        }
    }

    /** Costs as they are thought of, apart from what stands, and the best BASKET by them. */
    private static final class Thought {
        private final Stock stock;
        private final Wants wants;
        private final int[] coin = new int[THINGS];
        private final int[] points = new int[THINGS];
        // WORTH of the first 0 .. 3 of each THING together.
        private final int[][] worth = new int[THINGS][MOST_OF_ONE + 1];
        // What this THING and those behind it can add at most.
        private final int[] rest = new int[THINGS + 1];
        private int purse;
        private int book;
        private int price;
        int bestWorth;
        int bestCost;
        int bestPoints;
        int bestDigits;

        Thought(Stock stock, Wants wants) {
            this.stock = stock;
            this.wants = wants;
        }

        void recall() {
            for (int thing = 0; thing < THINGS; thing++) {
                coin[thing] = stock.at(COIN, thing);
                points[thing] = stock.at(POINTS, thing);
            }
        }

        int coinOf(int thing) {
            return isWithin(thing, 0, THINGS - 1) ? coin[thing] : 0;
        }

        int pointsOf(int thing) {
            return isWithin(thing, 0, THINGS - 1) ? points[thing] : 0;
        }

        void think(int thing, int ofCoin, int ofPoints) {
            if (isWithin(thing, 0, THINGS - 1)) {
                coin[thing] = ofCoin;
                points[thing] = ofPoints;
            }
        }

        int worthOf(int sort, int thing, int k) {
            wants.name('s', sort);
            wants.name('b', stock.at(BABIES, sort));
            wants.name('n', stock.things);
            wants.name('t', thing);
            wants.name('k', k);
            wants.name('c', coinOf(thing));
            wants.name('p', pointsOf(thing));
            return Math.max(0, Math.min(999, wants.workOut(stock.at(WANT, sort))));
        }

        int worthOfFirst(int thing, int many) {
            return isWithin(thing, 0, THINGS - 1) && isWithin(many, 0, MOST_OF_ONE) ? worth[thing][many] : 0;
        }

        /** WORTHS are weighed by the costs as they are thought of at this time. */
        void weigh(int sort) {
            rest[stock.things] = 0;
            for (int thing = stock.things - 1; thing >= 0; thing--) {
                for (int k = 1; k <= MOST_OF_ONE; k++) {
                    worth[thing][k] = worth[thing][k - 1] + worthOf(sort, thing, k);
                }
                rest[thing] = rest[thing + 1] + worth[thing][MOST_OF_ONE];
            }
        }

        /** The BEST BASKET of a SORT whose WORTHS have been weighed. */
        void choose(int sort) {
            search(stock.at(PURSE, sort), stock.pointsInAll(sort), FORBIDDEN);
        }

        /** What is above the book in points costs the price each, beside the coin. */
        void search(int ofPurse, int ofBook, int ofPrice) {
            purse = ofPurse;
            book = ofBook;
            price = ofPrice;
            bestWorth = -1;
            bestCost = 0;
            bestPoints = 0;
            bestDigits = 0;
            descend(this, 0, 0, 0, 0, 0);
        }

        private static void descend(Thought x, int thing, int ofWorth, int cost, int ofPoints, int digits) {
            if (thing >= x.stock.things || thing >= THINGS) {
                x.compare(ofWorth, cost, ofPoints, digits);
                return;
            }
            if (ofWorth + x.rest[thing] < x.bestWorth) {
                return;
            }
            for (int many = MOST_OF_ONE; many >= 0; many--) {
                int nextCost = cost + many * x.coin[thing];
                int nextPoints = ofPoints + many * x.points[thing];
                if (x.isPayable(nextCost, nextPoints)) {
                    descend(x, thing + 1, ofWorth + x.worth[thing][many], nextCost, nextPoints, digits * 10 + many);
                }
            }
        }

        boolean isPayable(int cost, int ofPoints) {
            int lacking = ofPoints > book ? ofPoints - book : 0;
            return cost + price * lacking <= purse;
        }

        // BASKETS come with their digits falling: of wholly like ones the later is the least.
        private void compare(int ofWorth, int cost, int ofPoints, int digits) {
            boolean better = ofWorth > bestWorth;
            if (ofWorth == bestWorth) {
                better = cost < bestCost || (cost == bestCost && ofPoints <= bestPoints);
            }
            if (better) {
                bestWorth = ofWorth;
                bestCost = cost;
                bestPoints = ofPoints;
                bestDigits = digits;
            }
        }
    }

    /** What all SORTS want together, POINTS FOUND by it, and the judgement of told BASKETS. */
    private static final class Market {
        private final Stock stock;
        private final Thought thought;
        private final int[] wanted = new int[THINGS];
        private final int[] told = new int[SORTS];
        private final int[] leastPoints = new int[THINGS];
        int moved;
        int leastBoth;
        int leastRound;

        Market(Stock stock, Thought thought) {
            this.stock = stock;
            this.thought = thought;
        }

        void wantAll() {
            for (int thing = 0; thing < stock.things; thing++) {
                wanted[thing] = 0;
            }
            for (int sort = 0; sort < stock.sorts; sort++) {
                thought.weigh(sort);
                thought.choose(sort);
                for (int thing = 0; thing < stock.things; thing++) {
                    wanted[thing] += stock.at(HEADS, sort) * stock.digitOf(thought.bestDigits, thing);
                }
            }
        }

        int wantedOf(int thing) {
            return isWithin(thing, 0, THINGS - 1) ? wanted[thing] : 0;
        }

        int overOf(int thing) {
            return stock.at(MANY, thing) - wantedOf(thing);
        }

        int bothTogether() {
            int both = 0;
            for (int thing = 0; thing < stock.things; thing++) {
                both += Math.abs(overOf(thing));
            }
            return both;
        }

        void findPoints(int rounds) {
            thought.recall();
            wantAll();
            moved = 0;
            keepLeast();
            for (int round = 1; round <= rounds && movePoints(); round++) {
                moved = round;
                wantAll();
                if (bothTogether() < leastBoth) {
                    keepLeast();
                }
            }
        }

        int leastPointsOf(int thing) {
            return isWithin(thing, 0, THINGS - 1) ? leastPoints[thing] : 0;
        }

        private void keepLeast() {
            leastBoth = bothTogether();
            leastRound = moved;
            for (int thing = 0; thing < stock.things; thing++) {
                leastPoints[thing] = thought.pointsOf(thing);
            }
        }

        private boolean movePoints() {
            boolean some = false;
            for (int thing = 0; thing < stock.things; thing++) {
                int now = thought.pointsOf(thing);
                int next = now - Integer.compare(overOf(thing), 0);
                if (next != now && isWithin(next, 0, 99)) {
                    thought.think(thing, thought.coinOf(thing), next);
                    some = true;
                }
            }
            return some;
        }

        int hear(int sort, int digits) {
            if (!isWithin(sort, 0, SORTS - 1)) {
                return BAD;
            }
            int was = told[sort];
            told[sort] = digits;
            return was;
        }

        int judged() {
            thought.recall();
            for (int sort = 0; sort < stock.sorts; sort++) {
                int fault = faultOf(sort);
                if (fault != 0) {
                    return fault + sort;
                }
            }
            for (int thing = 0; thing < stock.things; thing++) {
                if (toldOf(thing) > stock.at(MANY, thing)) {
                    return 30 + thing;
                }
            }
            return NOT;
        }

        private int faultOf(int sort) {
            thought.weigh(sort);
            thought.choose(sort);
            int worth = 0;
            int coin = 0;
            int points = 0;
            for (int thing = 0; thing < stock.things; thing++) {
                int many = stock.digitOf(told[sort], thing);
                worth += thought.worthOfFirst(thing, many);
                coin += many * thought.coinOf(thing);
                points += many * thought.pointsOf(thing);
            }
            if (!thought.isPayable(coin, points)) {
                return 10;
            }
            return worth < thought.bestWorth ? 20 : 0;
        }

        private int toldOf(int thing) {
            int all = 0;
            for (int sort = 0; sort < stock.sorts; sort++) {
                all += stock.at(HEADS, sort) * stock.digitOf(told[sort], thing);
            }
            return all;
        }

        /** Whether nothing is GONE, when only the THINGS of the set are on POINTS. */
        boolean servesAll(int set) {
            thought.recall();
            for (int thing = 0; thing < stock.things; thing++) {
                if ((set >> thing & 1) == 0) {
                    thought.think(thing, thought.coinOf(thing), 0);
                }
            }
            wantAll();
            for (int thing = 0; thing < stock.things; thing++) {
                if (overOf(thing) < 0) {
                    return false;
                }
            }
            return true;
        }

        int takersOf(int thing) {
            thought.recall();
            int takers = 0;
            for (int sort = 0; sort < stock.sorts; sort++) {
                thought.weigh(sort);
                thought.choose(sort);
                if (stock.digitOf(thought.bestDigits, thing) > 0) {
                    takers |= 1 << sort;
                }
            }
            return takers;
        }

        int cheapest(int m) {
            int best = NOT;
            for (int thing = 0; thing < stock.things; thing++) {
                boolean pays = stock.at(MADE, thing) <= stock.at(COIN, thing) - m;
                if (pays && (best == NOT || stock.at(POINTS, thing) < stock.at(POINTS, best))) {
                    best = thing;
                }
            }
            return best;
        }

        int findWorst() {
            thought.recall();
            wantAll();
            int worst = NOT;
            for (int thing = 0; thing < stock.things; thing++) {
                if (stock.at(MANY, thing) > 0 && (worst == NOT || offOf(thing) > offOf(worst))) {
                    worst = thing;
                }
            }
            return worst;
        }

        int offOf(int thing) {
            int many = stock.at(MANY, thing);
            return many == 0 ? 0 : Math.abs(overOf(thing)) * 1000 / many;
        }
    }

    /** What a SORT comes to by other ways than its BEST BASKET. */
    private static final class Deals {
        private final Stock stock;
        private final Thought thought;
        // The greatest WORTH by so many POINTS at most, for FORESIGHT.
        private final int[] reach = new int[2 * MOST_POINTS_IN_ALL + 1];
        int worthLived;
        int lapsed;

        Deals(Stock stock, Thought thought) {
            this.stock = stock;
            this.thought = thought;
        }

        int plainWorth(int sort) {
            thought.recall();
            thought.weigh(sort);
            thought.choose(sort);
            return thought.bestWorth;
        }

        /** To sell what is left of points and to buy what lacks at one rate is to pay points by coin at it. */
        void exchange(int sort, int rate) {
            thought.recall();
            thought.weigh(sort);
            for (int thing = 0; thing < stock.things; thing++) {
                int points = thought.pointsOf(thing);
                thought.think(thing, thought.coinOf(thing) + rate * points, points);
            }
            thought.search(stock.at(PURSE, sort) + rate * stock.pointsInAll(sort), 0, 0);
        }

        int pointsThere() {
            int points = 0;
            for (int sort = 0; sort < stock.sorts; sort++) {
                points += stock.at(HEADS, sort) * stock.pointsInAll(sort);
            }
            return points;
        }

        int pointsTaken(int rate) {
            int points = 0;
            for (int sort = 0; sort < stock.sorts; sort++) {
                exchange(sort, rate);
                points += stock.at(HEADS, sort) * thought.bestPoints;
            }
            return points;
        }

        int byStealth(int sort, int rate, int fine, int caught) {
            thought.recall();
            thought.weigh(sort);
            int price = rate + (fine * caught + 99) / 100;
            thought.search(stock.at(PURSE, sort), stock.pointsInAll(sort), price);
            return thought.bestWorth;
        }

        int otherwise(int sort, int c) {
            thought.recall();
            thought.weigh(sort);
            return c == 0 ? equalWorth() : coinWorth(sort, c);
        }

        private int equalWorth() {
            int heads = stock.allHeads();
            int worth = 0;
            for (int thing = 0; thing < stock.things; thing++) {
                int share = heads == 0 ? 0 : stock.at(MANY, thing) / heads;
                worth += thought.worthOfFirst(thing, Math.min(MOST_OF_ONE, share));
            }
            return worth;
        }

        private int coinWorth(int sort, int c) {
            for (int thing = 0; thing < stock.things; thing++) {
                thought.think(thing, thought.coinOf(thing) * c / 100, 0);
            }
            thought.search(stock.at(PURSE, sort), 0, 0);
            return thought.bestWorth;
        }

        int losers(int c) {
            int losers = 0;
            for (int sort = 0; sort < stock.sorts; sort++) {
                if (plainWorth(sort) < otherwise(sort, c)) {
                    losers |= 1 << sort;
                }
            }
            return losers;
        }

        void live(int sort, int m, int lent) {
            thought.recall();
            thought.weigh(sort);
            worthLived = 0;
            lapsed = 0;
            int left = 0;
            for (int month = 0; month < m; month++) {
                int carried = Math.min(left, lent);
                int book = stock.pointsInAll(sort) + carried;
                thought.search(stock.at(PURSE, sort), book, FORBIDDEN);
                worthLived += thought.bestWorth;
                lapsed += left - carried;
                left = book - thought.bestPoints;
            }
            lapsed += left;
        }

        int gainByForesight(int sort) {
            int plain = plainWorth(sort);
            int points = Math.min(MOST_POINTS_IN_ALL, stock.pointsInAll(sort));
            reachAll(stock.at(PURSE, sort));
            int greatest = 0;
            for (int first = 0; first <= points; first++) {
                greatest = Math.max(greatest, reach[first] + reach[2 * points - first]);
            }
            return greatest - 2 * plain;
        }

        private void reachAll(int purse) {
            for (int points = 0; points < reach.length; points++) {
                reach[points] = 0;
            }
            spread(this, 0, 0, purse, 0);
            for (int points = 1; points < reach.length; points++) {
                reach[points] = Math.max(reach[points], reach[points - 1]);
            }
        }

        private static void spread(Deals x, int thing, int worth, int left, int points) {
            if (left < 0 || points >= x.reach.length) {
                return;
            }
            if (thing >= x.stock.things || thing >= THINGS) {
                x.reach[points] = Math.max(x.reach[points], worth);
                return;
            }
            int coin = x.thought.coinOf(thing);
            int each = x.thought.pointsOf(thing);
            for (int many = 0; many <= MOST_OF_ONE; many++) {
                int more = x.thought.worthOfFirst(thing, many);
                spread(x, thing + 1, worth + more, left - many * coin, points + many * each);
            }
        }
    }

    /** The PURSES that are kept, and their ACTS by the bodies of their KINDS. */
    private static final class Purses {
        // The KIND above each KIND, and the bodies that each has of its own: buys, keeps, lends, tells (0: none).
        private static final int[] ABOVE = {-1, 0, 0, 2, 2, 3, 0, 4};
        private static final int[] BUYS = {1, 20, 0, 0, 0, 60, 70, 0};
        private static final int[] KEEPS = {10, 0, 30, 0, 0, 0, 0, 80};
        private static final int[] LENDS = {11, 0, 0, 40, 50, 0, 0, 0};
        private static final int[] TELLS = {2, 0, 0, 0, 0, 61, 0, 81};
        private static final int TO_BUY = 0, TO_KEEP = 1, TO_LEND = 2, TO_TELL = 3;
        private static final int DEEPEST_ACT = 30;

        private final int[] kinds = new int[BODIES];
        int kept;
        private final int[] traces = new int[TRACE];
        int ran;
        private int own;
        private int ownKind;

        boolean has(int number) {
            return isWithin(number, 0, kept - 1) && number < BODIES;
        }

        int add(int kind) {
            if (kept >= BODIES) {
                return FULL;
            }
            kinds[kept] = kind;
            return kept++;
        }

        int kindOf(int number) {
            return has(number) ? kinds[number] : -1;
        }

        boolean isUnder(int kind, int above) {
            int up = kind;
            for (int step = 0; step < KINDS && up != above; step++) {
                up = aboveOf(up);
            }
            return up == above;
        }

        void forget() {
            ran = 0;
        }

        int traced(int i) {
            return isWithin(i, 0, Math.min(ran, TRACE) - 1) ? traces[i] : BAD;
        }

        int start(int number, int act, int x) {
            own = number;
            ownKind = kindOf(number);
            return run(ownKind, act, x, 0);
        }

        /** Runs the body that this KIND, or the next above it that has one, has for the act. */
        private int run(int from, int act, int x, int depth) {
            int kind = from;
            for (int step = 0; step < KINDS && bodyOf(kind, act) == 0; step++) {
                kind = aboveOf(kind);
            }
            int body = bodyOf(kind, act);
            if (body == 0 || depth > DEEPEST_ACT) {
                return 0;
            }
            if (ran < TRACE) {
                traces[ran] = body;
            }
            ran++;
            return runBody(body, aboveOf(kind), x, depth + 1);
        }

        private int runBody(int body, int up, int x, int depth) {
            switch (body) {
                case 1: return x + own;
                case 2: return run(ownKind, TO_KEEP, x, depth) - run(ownKind, TO_LEND, 1, depth);
                case 10: return run(ownKind, TO_BUY, x, depth) * 2;
                case 11: return x ^ own;
                case 20: return run(up, TO_BUY, x, depth) + 3;
                case 30: return -run(up, TO_KEEP, x, depth);
                case 40: return run(up, TO_LEND, x, depth) * 3;
                case 50: return run(up, TO_LEND, x, depth) - run(ownKind, TO_BUY, 2, depth);
                case 60: return run(up, TO_BUY, x + 1, depth);
                case 61: return run(up, TO_TELL, x, depth) ^ 5;
                case 70: return run(up, TO_BUY, x, depth) * 2;
                case 80: return run(up, TO_KEEP, x, depth) + run(ownKind, TO_LEND, 2, depth);
                case 81: return run(up, TO_TELL, x, depth) - 1;
                default: return 0;
            }
        }

        private static int aboveOf(int kind) {
            return isWithin(kind, 0, KINDS - 1) ? ABOVE[kind] : -1;
        }

        private static int bodyOf(int kind, int act) {
            if (!isWithin(kind, 0, KINDS - 1)) {
                return 0;
            }
            switch (act) {
                case TO_BUY: return BUYS[kind];
                case TO_KEEP: return KEEPS[kind];
                case TO_LEND: return LENDS[kind];
                default: return TELLS[kind];
            }
        }
    }

    /** What the SHELVES hold: nothing, a PURSE by its number, or a ROW of so many elements. */
    private static final class Shelves {
        private static final int BYTES = 0, INTS = 2, LONGS = 3;

        private final int[] held = new int[SHELVES];
        private final int[] sizes = new int[SHELVES];
        private final long[][] cells = new long[SHELVES][ELEMENTS];

        Shelves() {
            for (int shelf = 0; shelf < SHELVES; shelf++) {
                held[shelf] = NOTHING;
            }
        }

        boolean isShelf(int shelf) {
            return isWithin(shelf, 0, SHELVES - 1);
        }

        int heldOn(int shelf) {
            return isShelf(shelf) ? held[shelf] : NOTHING;
        }

        /** How many elements, or which PURSE. */
        int sizeOn(int shelf) {
            return isShelf(shelf) ? sizes[shelf] : 0;
        }

        void hold(int shelf, int what, int size) {
            if (!isShelf(shelf)) {
                return;
            }
            held[shelf] = what;
            sizes[shelf] = size;
            for (int i = 0; i < ELEMENTS; i++) {
                cells[shelf][i] = 0;
            }
        }

        int refusalOf(int shelf, int i) {
            if (!isShelf(shelf)) {
                return BAD;
            }
            if (held[shelf] == NOTHING) {
                return NOTHING_THERE;
            }
            if (held[shelf] == A_PURSE) {
                return OTHER_KIND;
            }
            return holdsPart(shelf, i, 1) ? 0 : NO_PLACE;
        }

        int refusalOfTwo(int shelf, int other) {
            if (!isShelf(shelf) || !isShelf(other)) {
                return BAD;
            }
            if (held[shelf] == NOTHING || held[other] == NOTHING) {
                return NOTHING_THERE;
            }
            return held[shelf] == A_PURSE || held[shelf] != held[other] ? OTHER_KIND : 0;
        }

        boolean holdsPart(int shelf, int i, int n) {
            return isShelf(shelf) && isWithin(n, 0, sizes[shelf]) && isWithin(i, 0, sizes[shelf] - n);
        }

        long read(int shelf, int i) {
            return isShelf(shelf) && isWithin(i, 0, ELEMENTS - 1) ? cells[shelf][i] : 0;
        }

        void write(int shelf, int i, long v) {
            if (isShelf(shelf) && isWithin(i, 0, ELEMENTS - 1)) {
                cells[shelf][i] = lowest(held[shelf], v);
            }
        }

        void copy(int shelf, int i, int other, int j, int n) {
            if (holdsPart(shelf, i, n) && holdsPart(other, j, n)) {
                System.arraycopy(cells[shelf], i, cells[other], j, n);
            }
        }

        private static long lowest(int sort, long v) {
            switch (sort) {
                case BYTES: return (byte) v;
                case SHORTS: return (short) v;
                case INTS: return (int) v;
                case LONGS: return v;
                default: return v != 0 ? 1 : 0;
            }
        }
    }
}
