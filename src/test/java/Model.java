import java.util.ArrayDeque;
import java.util.ArrayList;
import java.util.Arrays;
import java.util.Deque;
import java.util.HashMap;
import java.util.List;
import java.util.Map;

/** The document said once more, another way: by lists, by splitting texts, and by trying every BASKET. */
final class Model {
    private static final int BAD = -1, NOT = -2, FULL = -3, STATE = -5, VOID = -2000000000;
    private static final String ABOVE = ".0022304";

    /** What may be bought, and what it costs. */
    private interface Purse {
        /** The cost, or -1: it may not be bought. */
        int cost(int coin, int points);
    }

    private record Found(int worth, int cost, int points, int digits) {
    }

    private record Change(int[] row, int i, int was, int is) {
    }

    private final List<int[]> things = new ArrayList<>();
    private final List<int[]> sorts = new ArrayList<>();
    private final List<String> wants = new ArrayList<>();
    private final Map<Integer, Integer> told = new HashMap<>();
    private String tape = "";
    private final Deque<Change> done = new ArrayDeque<>();
    private final Deque<Change> undone = new ArrayDeque<>();
    private final List<Integer> bodies = new ArrayList<>();
    private final List<Integer> ran = new ArrayList<>();
    private final Object[] shelves = new Object[6];
    private final int[] rowSorts = new int[6];

    // ---- things, sorts

    public int thing(int many, int cp, int made) {
        if (out(many, 999) || out(cp, 9999) || out(made, 99)) {
            return BAD;
        }
        if (things.size() == 6) {
            return FULL;
        }
        things.add(new int[] {many, cp / 100, cp % 100, made});
        return things.size() - 1;
    }

    public int things(int shelf, int i, int n) {
        if (out(shelf, 5) || n < 1 || n > 6) {
            return BAD;
        }
        if (shelves[shelf] == null) {
            return 0;
        }
        if (!(shelves[shelf] instanceof long[] row) || rowSorts[shelf] != 1) {
            return -12;
        }
        for (int came = 0; came < n; came++) {
            long from = (long) i + 4 * came;
            if (from < 0 || from + 4 > row.length) {
                return came;
            }
            int at = (int) from;
            if (row[at + 1] < 0 || row[at + 1] > 99 || row[at + 2] < 0 || row[at + 2] > 99
                || thing((int) row[at], (int) (row[at + 1] * 100 + row[at + 2]), (int) row[at + 3]) < 0) {
                return came;
            }
        }
        return n;
    }

    public int mend(int thing, int what, int v) {
        if (no(thing, things) || out(what, 2) || out(v, what == 0 ? 999 : 99)) {
            return BAD;
        }
        return change(things.get(thing), what, v);
    }

    public int sort(int heads, int pb, int bw) {
        if (heads < 1 || heads > 99 || out(pb, 9999) || out(bw, 39) || bw % 10 >= wants.size()) {
            return BAD;
        }
        if (sorts.size() == 5) {
            return FULL;
        }
        sorts.add(new int[] {heads, pb / 100, pb % 100, bw / 10, bw % 10});
        return sorts.size() - 1;
    }

    public int purse(int sort, int what, int v) {
        if (no(sort, sorts) || out(what, 1) || out(v, 99)) {
            return BAD;
        }
        return change(sorts.get(sort), what + 1, v);
    }

    public int of(int number, int what) {
        if (!out(what, 3) && !no(number, things)) {
            return things.get(number)[what];
        }
        if (what < 10 || what > 14 || no(number, sorts)) {
            return BAD;
        }
        return what == 12 ? all(sorts.get(number)) : sorts.get(number)[what - 10];
    }

    public int feed(int n, int v) {
        if (n < 1 || n > 4) {
            return BAD;
        }
        if (tape.length() + n > 120) {
            return FULL;
        }
        for (int i = 0; i < n; i++) {
            tape += (char) (v >>> 8 * i & 0xFF);
        }
        return tape.length();
    }

    public int want() {
        if (wants.size() == 4) {
            return FULL;
        }
        int fault = fault(tape);
        if (fault < 0) {
            wants.add(tape);
        }
        tape = "";
        return fault < 0 ? wants.size() - 1 : -100 - fault;
    }

    public int worth(int sort, int tk) {
        if (no(sort, sorts) || tk < 0 || no(tk / 10, things) || tk % 10 < 1 || tk % 10 > 3) {
            return BAD;
        }
        return worthOf(sort, tk / 10, tk % 10);
    }

    // ---- baskets

    public int basket(int sort, int what) {
        if (no(sort, sorts) || out(what, 3)) {
            return BAD;
        }
        Found best = best(sort);
        return new int[] {best.digits, best.worth, best.cost, best.points}[what];
    }

    public int wanted(int thing, int what) {
        if (thing == -1 && what == 1) {
            return both();
        }
        if (no(thing, things) || out(what, 1)) {
            return VOID;
        }
        return what == 1 ? over(thing) : things.get(thing)[0] - over(thing);
    }

    public int led(int thing, int sort) {
        if (no(thing, things) || no(sort, sorts)) {
            return BAD;
        }
        return sorts.get(sort)[0] * digit(best(sort).digits, thing);
    }

    public int found(int rounds, int what) {
        if (rounds < 1 || rounds > 60 || what < -4 || what >= things.size()) {
            return BAD;
        }
        int[] stood = column(2);
        int[] all = steps(rounds);
        int answer = what >= 0 ? things.get(what)[2] : all[-1 - what];
        restore(2, stood);
        return answer;
    }

    public int set(int rounds) {
        if (rounds < 1 || rounds > 60) {
            return BAD;
        }
        int[] stood = column(2);
        int round = steps(rounds)[3];
        restore(2, stood);
        if (round > 0) {
            steps(round);
        }
        int[] then = column(2);
        restore(2, stood);
        for (int thing = 0; thing < then.length; thing++) {
            change(things.get(thing), 2, then[thing]);
        }
        return both();
    }

    public int tell(int sort, int digits) {
        if (no(sort, sorts) || digits < 0 || !Integer.toString(digits).matches("[0-3]*")) {
            return BAD;
        }
        if (digits > 0 && Integer.toString(digits).length() > things.size()) {
            return BAD;
        }
        Integer was = told.put(sort, digits);
        return was == null ? 0 : was;
    }

    public int judge() {
        int[] all = new int[things.size()];
        for (int sort = 0; sort < sorts.size(); sort++) {
            int worth = 0;
            int coin = 0;
            int points = 0;
            for (int thing = 0; thing < all.length; thing++) {
                int many = digit(told.getOrDefault(sort, 0), thing);
                for (int k = 1; k <= many; k++) {
                    worth += worthOf(sort, thing, k);
                    coin += things.get(thing)[1];
                    points += things.get(thing)[2];
                }
                all[thing] += many * sorts.get(sort)[0];
            }
            if (coin > sorts.get(sort)[1] || points > all(sorts.get(sort))) {
                return 10 + sort;
            }
            if (worth < best(sort).worth) {
                return 20 + sort;
            }
        }
        for (int thing = 0; thing < all.length; thing++) {
            if (all[thing] > things.get(thing)[0]) {
                return 30 + thing;
            }
        }
        return NOT;
    }

    // ---- changing, beside, fewest

    public int changed(int sort, int rate, int what) {
        if (no(sort, sorts) || rate < 1 || rate > 99 || out(what, 1)) {
            return BAD;
        }
        return exchange(sort, rate).worth - (what == 1 ? best(sort).worth : 0);
    }

    public int free() {
        for (int rate = 1; rate < 100; rate++) {
            int more = 0;
            for (int sort = 0; sort < sorts.size(); sort++) {
                more += sorts.get(sort)[0] * (exchange(sort, rate).points - all(sorts.get(sort)));
            }
            if (more <= 0) {
                return rate;
            }
        }
        return NOT;
    }

    public int black(int sort, int rf, int caught) {
        if (no(sort, sorts) || rf < 100 || rf > 9999 || out(caught, 100)) {
            return BAD;
        }
        int hundredths = rf / 100 * 100 + rf % 100 * caught;
        int each = (int) Math.ceil(hundredths / 100.0);
        int[] who = sorts.get(sort);
        return search(sort, (coin, points) ->
            coin + (points > all(who) ? each * (points - all(who)) : 0) <= who[1] ? coin : -1).worth;
    }

    public int beside(int sort, int c) {
        if (no(sort, sorts) || c != 0 && (c < 100 || c > 900)) {
            return BAD;
        }
        if (c == 0) {
            int heads = 0;
            for (int[] who : sorts) {
                heads += who[0];
            }
            int worth = 0;
            for (int thing = 0; thing < things.size(); thing++) {
                for (int k = 1; k <= 3 && k * heads <= things.get(thing)[0]; k++) {
                    worth += worthOf(sort, thing, k);
                }
            }
            return worth;
        }
        int most = 0;
        for (int code = 0; code < 1 << 2 * things.size(); code++) {
            int coin = 0;
            int worth = 0;
            for (int thing = 0; thing < things.size(); thing++) {
                int many = code >> 2 * thing & 3;
                coin += many * (int) (things.get(thing)[1] * (long) c / 100);
                for (int k = 1; k <= many; k++) {
                    worth += worthOf(sort, thing, k);
                }
            }
            most = coin <= sorts.get(sort)[1] ? Math.max(most, worth) : most;
        }
        return most;
    }

    public int loses(int c) {
        if (c != 0 && (c < 100 || c > 900)) {
            return BAD;
        }
        int bits = 0;
        for (int sort = 0; sort < sorts.size(); sort++) {
            bits += best(sort).worth < beside(sort, c) ? 1 << sort : 0;
        }
        return bits;
    }

    public int fewest() {
        int best = NOT;
        int[] stood = column(2);
        for (int set = 0; set < 1 << things.size(); set++) {
            for (int thing = 0; thing < things.size(); thing++) {
                things.get(thing)[2] = (set & 1 << thing) != 0 ? stood[thing] : 0;
            }
            boolean fine = best == NOT || Integer.bitCount(set) < Integer.bitCount(best);
            for (int thing = 0; fine && thing < things.size(); thing++) {
                fine = over(thing) >= 0;
            }
            best = fine ? set : best;
        }
        restore(2, stood);
        return best;
    }

    public int least(int thing) {
        if (no(thing, things)) {
            return BAD;
        }
        int bits = 0;
        for (int sort = 0; sort < sorts.size(); sort++) {
            bits += led(thing, sort) > 0 ? 1 << sort : 0;
        }
        return bits;
    }

    // ---- months, what is wrong

    public int months(int sort, int m, int lent, int what) {
        if (no(sort, sorts) || m < 1 || m > 12 || out(lent, 99) || out(what, 1)) {
            return BAD;
        }
        int worth = 0;
        int lapsed = 0;
        int left = 0;
        for (int month = 1; month <= m; month++) {
            int points = all(sorts.get(sort)) + left;
            Found bought = plain(sort, points);
            worth += bought.worth;
            left = points - bought.points;
            int most = month == m ? 0 : lent;
            lapsed += Math.max(0, left - most);
            left = Math.min(left, most);
        }
        return what == 0 ? worth : lapsed;
    }

    public int foresight(int sort) {
        if (no(sort, sorts)) {
            return BAD;
        }
        int points = all(sorts.get(sort));
        int most = 0;
        for (int first = 0; first <= points; first++) {
            most = Math.max(most, plain(sort, first).worth + plain(sort, 2 * points - first).worth);
        }
        return most - 2 * best(sort).worth;
    }

    public int cheap(int m) {
        if (out(m, 99)) {
            return BAD;
        }
        int cheap = NOT;
        for (int thing = things.size() - 1; thing >= 0; thing--) {
            int[] it = things.get(thing);
            if (it[3] + m <= it[1] && (cheap == NOT || it[2] <= things.get(cheap)[2])) {
                cheap = thing;
            }
        }
        return cheap;
    }

    public int wrong(int what) {
        if (out(what, 2)) {
            return VOID;
        }
        int worst = NOT;
        int most = -1;
        for (int thing = 0; thing < things.size(); thing++) {
            int many = things.get(thing)[0];
            int off = many == 0 ? -1 : 1000 * Math.abs(over(thing)) / many;
            if (off > most) {
                most = off;
                worst = thing;
            }
        }
        if (worst == NOT || what == 0) {
            return worst;
        }
        return what == 1 ? most : over(worst) < 0 ? 1 : over(worst) > 0 ? -1 : 0;
    }

    public int undo() {
        if (done.isEmpty()) {
            return STATE;
        }
        Change last = done.removeLast();
        last.row[last.i] = last.was;
        undone.addLast(last);
        return done.size();
    }

    public int redo() {
        if (undone.isEmpty()) {
            return STATE;
        }
        Change last = undone.removeLast();
        last.row[last.i] = last.is;
        done.addLast(last);
        return undone.size();
    }

    // ---- acts, shelves

    public int body(int kind) {
        if (out(kind, 7)) {
            return BAD;
        }
        if (bodies.size() == 50) {
            return FULL;
        }
        bodies.add(kind);
        return bodies.size() - 1;
    }

    public int act(int body, int act, int x) {
        ran.clear();
        if (no(body, bodies) || out(act, 3)) {
            return 0;
        }
        Kind one = kind(bodies.get(body), body);
        switch (act) {
            case 0: return one.buys(x);
            case 1: return one.keeps(x);
            case 2: return one.lends(x);
            default: return one.tells(x);
        }
    }

    public int trace(int i) {
        return i < 0 || i >= Math.min(24, ran.size()) ? BAD : ran.get(i);
    }

    public int keep(int shelf, int body) {
        if (out(shelf, 5) || body != -1 && no(body, bodies)) {
            return BAD;
        }
        shelves[shelf] = body == -1 ? null : Integer.valueOf(body);
        return 1;
    }

    public int row(int shelf, int sort, int n) {
        if (out(shelf, 5) || out(sort, 4) || n > 60) {
            return BAD;
        }
        if (n < 0) {
            return -14;
        }
        shelves[shelf] = new long[n];
        rowSorts[shelf] = sort;
        return 1;
    }

    public int put(int shelf, int i, long v) {
        int refused = refused(shelf, i);
        if (refused < 0) {
            return refused;
        }
        int bits = new int[] {8, 16, 32, 64, 0}[rowSorts[shelf]];
        ((long[]) shelves[shelf])[i] = bits == 0 ? v == 0 ? 0 : 1 : v << 64 - bits >> 64 - bits;
        return 1;
    }

    public long element(int shelf, int i) {
        return refused(shelf, i) < 0 ? Long.MIN_VALUE : ((long[]) shelves[shelf])[i];
    }

    public int shift(int shelf, int i, int other, int j, int n) {
        if (out(shelf, 5) || out(other, 5)) {
            return BAD;
        }
        if (shelves[shelf] == null || shelves[other] == null) {
            return -11;
        }
        if (!(shelves[shelf] instanceof long[] from) || !(shelves[other] instanceof long[] to)
            || rowSorts[shelf] != rowSorts[other]) {
            return -12;
        }
        if (i < 0 || j < 0 || n < 0 || (long) i + n > from.length || (long) j + n > to.length) {
            return -13;
        }
        long[] before = from.clone();
        for (int at = 0; at < n; at++) {
            to[j + at] = before[i + at];
        }
        return n;
    }

    public int taken(int shelf, int k) {
        if (out(shelf, 5) || out(k, 7)) {
            return BAD;
        }
        if (shelves[shelf] == null) {
            return -11;
        }
        if (shelves[shelf] instanceof Integer body) {
            for (int kind = bodies.get(body); kind >= 0; kind = kind == 0 ? -1 : ABOVE.charAt(kind) - '0') {
                if (kind == k) {
                    return bodies.get(body);
                }
            }
        }
        return -12;
    }

    public int count(int what) {
        int[] all = {things.size(), sorts.size(), wants.size(), tape.length(), done.size(), bodies.size(), ran.size()};
        return out(what, 6) ? BAD : all[what];
    }

    // ---- what these need

    private static boolean out(int v, int top) {
        return v < 0 || v > top;
    }

    private static boolean no(int i, List<?> list) {
        return i < 0 || i >= list.size();
    }

    private static int all(int[] who) {
        return who[2] + 10 * who[3];
    }

    private int change(int[] row, int i, int v) {
        int was = row[i];
        if (was != v) {
            row[i] = v;
            undone.clear();
            done.addLast(new Change(row, i, was, v));
            if (done.size() > 40) {
                done.removeFirst();
            }
        }
        return was;
    }

    private int[] column(int what) {
        int[] column = new int[things.size()];
        Arrays.setAll(column, thing -> things.get(thing)[what]);
        return column;
    }

    private void restore(int what, int[] column) {
        for (int thing = 0; thing < column.length; thing++) {
            things.get(thing)[what] = column[thing];
        }
    }

    private int digit(int digits, int thing) {
        String text = "000000" + digits;
        return text.charAt(text.length() - things.size() + thing) - '0';
    }

    private Found best(int sort) {
        return plain(sort, all(sorts.get(sort)));
    }

    private Found plain(int sort, int book) {
        int purse = sorts.get(sort)[1];
        return search(sort, (coin, points) -> coin <= purse && points <= book ? coin : -1);
    }

    private Found exchange(int sort, int rate) {
        int[] who = sorts.get(sort);
        return search(sort, (coin, points) -> coin + rate * (points - all(who)) <= who[1] ? coin + rate * points : -1);
    }

    private Found search(int sort, Purse purse) {
        int n = things.size();
        int[][] worth = new int[n][4];
        for (int thing = 0; thing < n; thing++) {
            for (int k = 1; k <= 3; k++) {
                worth[thing][k] = worth[thing][k - 1] + worthOf(sort, thing, k);
            }
        }
        Found best = null;
        for (int code = 0; code < 1 << 2 * n; code++) {
            int all = 0;
            int coin = 0;
            int points = 0;
            int digits = 0;
            for (int thing = 0; thing < n; thing++) {
                int many = code >> 2 * (n - 1 - thing) & 3;
                all += worth[thing][many];
                coin += many * things.get(thing)[1];
                points += many * things.get(thing)[2];
                digits = digits * 10 + many;
            }
            int cost = purse.cost(coin, points);
            if (cost >= 0 && (best == null || all > best.worth
                || all == best.worth && (cost < best.cost || cost == best.cost && points < best.points))) {
                best = new Found(all, cost, points, digits);
            }
        }
        return best;
    }

    private int over(int thing) {
        int wanted = 0;
        for (int sort = 0; sort < sorts.size(); sort++) {
            wanted += sorts.get(sort)[0] * digit(best(sort).digits, thing);
        }
        return things.get(thing)[0] - wanted;
    }

    private int[] overs() {
        int[] overs = column(0);
        for (int sort = 0; sort < sorts.size(); sort++) {
            int digits = best(sort).digits;
            for (int thing = 0; thing < overs.length; thing++) {
                overs[thing] -= sorts.get(sort)[0] * digit(digits, thing);
            }
        }
        return overs;
    }

    private int both() {
        return Arrays.stream(overs()).map(Math::abs).sum();
    }

    /** How many moved, BOTH then, the least BOTH, its round; the THINGS have the POINTS then. */
    private int[] steps(int rounds) {
        List<Integer> both = new ArrayList<>(List.of(both()));
        for (int round = 1; round <= rounds; round++) {
            int[] overs = overs();
            boolean moved = false;
            for (int thing = 0; thing < overs.length; thing++) {
                int[] it = things.get(thing);
                int was = it[2];
                if (overs[thing] < 0) {
                    it[2] = Math.min(99, was + 1);
                } else if (overs[thing] > 0) {
                    it[2] = Math.max(0, was - 1);
                }
                moved |= it[2] != was;
            }
            if (!moved) {
                break;
            }
            both.add(both());
        }
        int least = both.stream().min(Integer::compare).get();
        return new int[] {both.size() - 1, both.get(both.size() - 1), least, both.indexOf(least)};
    }

    private int refused(int shelf, int i) {
        if (out(shelf, 5)) {
            return BAD;
        }
        if (shelves[shelf] == null) {
            return -11;
        }
        if (!(shelves[shelf] instanceof long[] row)) {
            return -12;
        }
        return i < 0 || i >= row.length ? -13 : 0;
    }

    // ---- texts

    /** The FAULT, by what may come next behind each byte; -1: none. */
    static int fault(String text) {
        StringBuilder open = new StringBuilder();
        List<Boolean> compared = new ArrayList<>(List.of(false));
        boolean operand = false;
        boolean asked = false;
        int digits = 0;
        for (int i = 0; i < text.length(); i++) {
            char sign = text.charAt(i);
            int level = compared.size() - 1;
            boolean isDigit = sign >= '0' && sign <= '9';
            if (operand && isDigit && digits > 0 && digits < 4) {
                digits++;
                continue;
            }
            if (!operand) {
                if (sign == '(' || sign == '!' || sign == '-') {
                    if (open.length() == 6) {
                        return i;
                    }
                    open.append(sign);
                    if (sign == '(') {
                        compared.add(false);
                    }
                } else if (isDigit || "tkcpsbn".indexOf(sign) >= 0) {
                    operand = true;
                    digits = isDigit ? 1 : 0;
                    close(open);
                } else {
                    return i;
                }
                continue;
            }
            digits = 0;
            if (sign == ')' && level > 0) {
                compared.remove(level);
                open.setLength(open.length() - 1);
                close(open);
                continue;
            }
            operand = false;
            if ("<=>".indexOf(sign) >= 0 && !compared.get(level)) {
                compared.set(level, true);
            } else if (sign == '|' || sign == '&') {
                compared.set(level, false);
            } else if (sign == ';' && level == 0 || sign == '?' && level == 0 && !asked) {
                compared.set(0, false);
                asked = sign == '?';
            } else if ("+-*/%".indexOf(sign) < 0) {
                return i;
            }
        }
        return operand && compared.size() == 1 ? -1 : text.length();
    }

    /** What stands ahead of an O that has ended is open no more. */
    private static void close(StringBuilder open) {
        while (open.length() > 0 && open.charAt(open.length() - 1) != '(') {
            open.setLength(open.length() - 1);
        }
    }

    private int worthOf(int sort, int thing, int k) {
        int[] it = things.get(thing);
        int[] who = sorts.get(sort);
        Map<String, Integer> names = Map.of("t", thing, "k", k, "c", it[1], "p", it[2], "s", sort, "b", who[3],
            "n", things.size());
        for (String line : wants.get(who[4]).split(";")) {
            int asks = line.indexOf('?');
            if (asks < 0 || value(line.substring(0, asks), names) != 0) {
                return Math.min(999, Math.max(0, value(line.substring(asks + 1), names)));
            }
        }
        return 0;
    }

    /** Parts a text at the last of the loosest signs that stand in no brackets. */
    private static int value(String text, Map<String, Integer> names) {
        for (String signs : List.of("|", "&", "<=>", "+-", "*/%")) {
            int depth = 0;
            for (int i = text.length() - 1; i > 0; i--) {
                char sign = text.charAt(i);
                depth += sign == ')' ? 1 : sign == '(' ? -1 : 0;
                char ahead = text.charAt(i - 1);
                boolean joins = ahead == ')' || Character.isLetterOrDigit(ahead);
                if (depth == 0 && joins && signs.indexOf(sign) >= 0) {
                    return joined(sign, value(text.substring(0, i), names), value(text.substring(i + 1), names));
                }
            }
        }
        char first = text.charAt(0);
        if (first == '(') {
            return value(text.substring(1, text.length() - 1), names);
        }
        if (first == '!' || first == '-') {
            int inner = value(text.substring(1), names);
            return first == '-' ? 0 - inner : inner == 0 ? 1 : 0;
        }
        return names.containsKey(text) ? names.get(text) : Integer.parseInt(text);
    }

    private static int joined(char sign, int a, int b) {
        boolean so = sign == '|' && (a != 0 || b != 0) || sign == '&' && a != 0 && b != 0 || sign == '<' && a < b
            || sign == '=' && a == b || sign == '>' && a > b;
        long answer = so ? 1 : 0;
        if (sign == '+') {
            answer = (long) a + b;
        } else if (sign == '-') {
            answer = (long) a - b;
        } else if (sign == '*') {
            answer = (long) a * b;
        } else if (sign == '/' && b != 0) {
            answer = (long) a / b;
        } else if (sign == '%' && b != 0) {
            answer = (long) a % b;
        }
        return (int) answer;
    }

    // ---- acts, as Java itself would have them

    private Kind kind(int kind, int n) {
        switch (kind) {
            case 0: return new Kind(n);
            case 1: return new Coin(n);
            case 2: return new Points(n);
            case 3: return new Lent(n);
            case 4: return new Changed(n);
            case 5: return new Baby(n);
            case 6: return new Told(n);
            default: return new Black(n);
        }
    }

    private class Kind {
        final int n;

        Kind(int n) {
            this.n = n;
        }

        int buys(int x) {
            ran.add(1);
            return x + n;
        }

        int keeps(int x) {
            ran.add(10);
            return buys(x) * 2;
        }

        int lends(int x) {
            ran.add(11);
            return x ^ n;
        }

        int tells(int x) {
            ran.add(2);
            return keeps(x) - lends(1);
        }
    }

    private class Coin extends Kind {
        Coin(int n) {
            super(n);
        }

        @Override
        int buys(int x) {
            ran.add(20);
            return super.buys(x) + 3;
        }
    }

    private class Points extends Kind {
        Points(int n) {
            super(n);
        }

        @Override
        int keeps(int x) {
            ran.add(30);
            return -super.keeps(x);
        }
    }

    private class Lent extends Points {
        Lent(int n) {
            super(n);
        }

        @Override
        int lends(int x) {
            ran.add(40);
            return super.lends(x) * 3;
        }
    }

    private class Changed extends Points {
        Changed(int n) {
            super(n);
        }

        @Override
        int lends(int x) {
            ran.add(50);
            return super.lends(x) - buys(2);
        }
    }

    private class Baby extends Lent {
        Baby(int n) {
            super(n);
        }

        @Override
        int buys(int x) {
            ran.add(60);
            return super.buys(x + 1);
        }

        @Override
        int tells(int x) {
            ran.add(61);
            return super.tells(x) ^ 5;
        }
    }

    private class Told extends Kind {
        Told(int n) {
            super(n);
        }

        @Override
        int buys(int x) {
            ran.add(70);
            return super.buys(x) * 2;
        }
    }

    private class Black extends Changed {
        Black(int n) {
            super(n);
        }

        @Override
        int keeps(int x) {
            ran.add(80);
            return super.keeps(x) + lends(2);
        }

        @Override
        int tells(int x) {
            ran.add(81);
            return super.tells(x) - 1;
        }
    }
}
