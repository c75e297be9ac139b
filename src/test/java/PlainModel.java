import java.util.ArrayList;
import java.util.HashMap;
import java.util.List;
import java.util.Map;

/**
 * The document once more, as slowly and as plainly as it can be told: nothing is kept that can be
 * worked out anew, nothing is shared with SlackRace. FuzzTest holds the two against each other.
 */
final class PlainModel {
    static final int NONE = -1;
    static final int NOTHING = -100000;

    static final class Kept implements Cloneable {
        int[][] sea = new int[2][3];
        int[][][] moon = new int[2][4][3];
        int[] terms = {8, 10, 40, 50, 0, 20, 100, 2, 5, 0, 1013};
        int[] kinds = new int[50];
        List<List<Clause>> laws = new ArrayList<>();
        int force = NONE;
        List<int[]> boats = new ArrayList<>();
        List<int[]> ships = new ArrayList<>();
        List<int[]> floats = new ArrayList<>();
        List<Integer> plan = new ArrayList<>();

        Kept copy() {
            Kept k = new Kept();
            for (int e = 0; e < 2; e++) {
                k.sea[e] = sea[e].clone();
                for (int m = 0; m < 4; m++) {
                    k.moon[e][m] = moon[e][m].clone();
                }
            }
            k.terms = terms.clone();
            k.kinds = kinds.clone();
            k.laws = new ArrayList<>(laws);
            k.force = force;
            k.boats = new ArrayList<>(boats);
            k.ships = new ArrayList<>(ships);
            k.floats = new ArrayList<>(floats);
            k.plan = new ArrayList<>(plan);
            return k;
        }
    }

    static final class Broken extends Exception {
        private static final long serialVersionUID = 1L;
    }

    static final class Fault extends Exception {
        private static final long serialVersionUID = 1L;
        final int place;

        Fault(int place) {
            this.place = place;
        }
    }

    interface Sum {
        long of(Map<String, Integer> words) throws Broken;
    }

    interface Test {
        boolean of(Map<String, Integer> words) throws Broken;
    }

    record Clause(String head, Sum sum, Test test) {
    }

    record Token(String text, int place) {
    }

    Kept now = new Kept();
    Kept[] images = new Kept[2];
    List<Integer> tape = new ArrayList<>();
    int foul = 0;
    int fault = NONE;
    int status = 0;
    int[] refused = new int[7];
    int[] drawn = null;

    PlainModel() {
        for (int e = 0; e < 2; e++) {
            for (int m = 0; m < 4; m++) {
                now.moon[e][m][1] = 720;
            }
        }
        java.util.Arrays.fill(now.kinds, 1);
    }

    private int no(int code) {
        status = code;
        refused[-code]++;
        return code;
    }

    private int yes(int answer) {
        status = 0;
        return answer;
    }

    private static boolean in(int v, int a, int b) {
        return a <= v && v <= b;
    }

    // ---- settings

    int sea(int end, int what, int value) {
        boolean fits = in(end, 0, 1) && (what == 0 && in(value, -500, 500)
                || what == 1 && in(value, 0, 3) || what == 2 && in(value, -5, 5));
        if (!fits) {
            return no(-1);
        }
        int was = now.sea[end][what];
        now.sea[end][what] = value;
        return yes(was);
    }

    int moon(int end, int moon, int what, int value) {
        boolean fits = in(end, 0, 1) && in(moon, 0, 3) && (what == 0 && in(value, 0, 500)
                || what == 1 && in(value, 60, 2000) || what == 2 && in(value, 0, 1999));
        if (!fits) {
            return no(-1);
        }
        int was = now.moon[end][moon][what];
        now.moon[end][moon][what] = value;
        return yes(was);
    }

    int terms(int what, int value) {
        int[][] range = {{0, 50}, {0, 50}, {1, 500}, {0, 500}, {-1000, 1000}, {0, 60}, {1, 500},
            {0, 20}, {0, 50}, {-40, 40}, {950, 1050}};
        if (!in(what, 0, 10) || !in(value, range[what][0], range[what][1])) {
            return no(-1);
        }
        int was = now.terms[what];
        now.terms[what] = value;
        return yes(was);
    }

    int feed(int... numbers) {
        if (tape.size() > 380) {
            return NONE;
        }
        for (int n : numbers) {
            for (byte b : java.nio.ByteBuffer.allocate(4).putInt(n).array()) {
                tape.add(b & 255);
            }
        }
        return tape.size();
    }

    int end(int n) {
        if (n < 0 || n > tape.size()) {
            return NONE;
        }
        tape = new ArrayList<>(tape.subList(0, n));
        return n;
    }

    int row() {
        if (tape.isEmpty()) {
            return no(-6);
        }
        int came = 0;
        foul = 0;
        for (int i = 0; i < tape.size(); i++) {
            if (i < 50 && tape.get(i) <= 5) {
                now.kinds[i] = tape.get(i);
                came++;
            } else {
                foul++;
            }
        }
        tape.clear();
        return yes(came);
    }

    int law() {
        List<Integer> text = tape;
        tape = new ArrayList<>();
        if (now.laws.size() == 6) {
            return no(-5);
        }
        try {
            now.laws.add(new Parser(text).all());
            fault = NONE;
            return yes(now.laws.size() - 1);
        } catch (Fault f) {
            fault = f.place;
            return no(-6);
        }
    }

    int force(int law) {
        if (law != NONE && !in(law, 0, now.laws.size() - 1)) {
            return no(-2);
        }
        int was = now.force;
        now.force = law;
        return yes(was);
    }

    // ---- the language, as a tree

    static final class Parser {
        final List<Token> tokens = new ArrayList<>();
        int at = 0;
        int parts = 0;
        int open = 0;

        Parser(List<Integer> bytes) {
            StringBuilder s = new StringBuilder();
            bytes.forEach(b -> s.append((char) (int) b));
            java.util.regex.Matcher m =
                    java.util.regex.Pattern.compile("[a-z]+|[0-9]+|[^ ]", 32).matcher(s);
            while (m.find()) {
                tokens.add(new Token(m.group(), m.start()));
            }
            tokens.add(new Token("", bytes.size()));
        }

        String peek() {
            return tokens.get(at).text;
        }

        Fault here() {
            return new Fault(tokens.get(at).place);
        }

        boolean take(String... any) {
            for (String one : any) {
                if (peek().equals(one)) {
                    at++;
                    return true;
                }
            }
            return false;
        }

        String last() {
            return tokens.get(at - 1).text;
        }

        void want(String... any) throws Fault {
            if (!take(any)) {
                throw here();
            }
        }

        List<Clause> all() throws Fault {
            List<Clause> clauses = new ArrayList<>();
            do {
                if (clauses.size() == 12) {
                    throw here();
                }
                want("gains", "white");
                String head = last();
                Sum sum = sum();
                Test test = take("if") ? test() : null;
                clauses.add(new Clause(head, sum, test));
            } while (take(";"));
            if (!peek().isEmpty()) {
                throw here();
            }
            return clauses;
        }

        Test test() throws Fault {
            Test left = both();
            while (take("or")) {
                Test a = left;
                Test b = both();
                left = w -> a.of(w) || b.of(w);
            }
            return left;
        }

        Test both() throws Fault {
            Test left = plain();
            while (take("and")) {
                Test a = left;
                Test b = plain();
                left = w -> a.of(w) && b.of(w);
            }
            return left;
        }

        Test plain() throws Fault {
            if (take("not")) {
                Test a = plain();
                return w -> !a.of(w);
            }
            if (peek().equals("(")) {
                enter();
                Test a = test();
                leave(")");
                return a;
            }
            Sum a = sum();
            want("<", ">", "=");
            String sign = last();
            Sum b = sum();
            return w -> {
                int c = Long.compare(a.of(w), b.of(w));
                return sign.equals("<") ? c < 0 : sign.equals(">") ? c > 0 : c == 0;
            };
        }

        void enter() throws Fault {
            if (open == 8) {
                throw here();
            }
            open++;
            at++;
        }

        void leave(String sign) throws Fault {
            want(sign);
            open--;
        }

        Sum sum() throws Fault {
            Sum left = term();
            while (take("+", "-")) {
                int sign = last().equals("+") ? 1 : -1;
                Sum a = left;
                Sum b = term();
                left = w -> bound(a.of(w) + sign * b.of(w));
            }
            return left;
        }

        Sum term() throws Fault {
            Sum left = part();
            while (take("*", "/")) {
                boolean times = last().equals("*");
                Sum a = left;
                Sum b = part();
                left = w -> {
                    long p = a.of(w);
                    long q = b.of(w);
                    if (!times && q == 0) {
                        throw new Broken();
                    }
                    return bound(times ? p * q : p / q);
                };
            }
            return left;
        }

        static long bound(long v) throws Broken {
            if (Math.abs(v) > 1000000000L) {
                throw new Broken();
            }
            return v;
        }

        Sum part() throws Fault {
            String t = peek();
            if (t.equals("[")) {
                enter();
                Sum a = sum();
                leave("]");
                return a;
            }
            boolean number = t.matches("[0-9]+")
                    && new java.math.BigInteger(t).compareTo(java.math.BigInteger.valueOf(1000)) <= 0;
            boolean word = List.of("fall", "flow", "minute", "wind", "glass", "kind", "turbines")
                    .contains(t);
            if (!number && !word || parts == 50) {
                throw here();
            }
            parts++;
            at++;
            int n = number ? Integer.parseInt(t) : 0;
            return w -> number ? n : w.get(t);
        }
    }

    /** What a HEAD tells, or null. */
    Long told(String head, int fall, int flow, int minute, int wind, int glass, int[] kindTurbines) {
        if (now.force == NONE) {
            return null;
        }
        Map<String, Integer> w = new HashMap<>();
        w.put("fall", fall);
        w.put("flow", flow);
        w.put("minute", minute);
        w.put("wind", wind);
        w.put("glass", glass);
        w.put("kind", kindTurbines[0]);
        w.put("turbines", kindTurbines[1]);
        Long told = null;
        for (Clause c : now.laws.get(now.force)) {
            if (c.head.equals(head)) {
                try {
                    if (c.test == null || c.test.of(w)) {
                        told = c.sum.of(w);
                    }
                } catch (Broken b) {
                    // it does not hold
                }
            }
        }
        return told;
    }

    // ---- levels and flow

    static int wave(int u, int period) {
        int x = 4000 * u / period;
        return x <= 2000 ? x * (2000 - x) / 1000 : -((x - 2000) * (4000 - x) / 1000);
    }

    int levelIn(int end, int minute, int wind, int glass) {
        int level = now.sea[end][0];
        for (int[] m : now.moon[end]) {
            level += m[0] * wave((minute + m[2]) % m[1], m[1]) / 1000;
        }
        return level + now.sea[end][1] * (1013 - glass) + now.sea[end][2] * wind;
    }

    int fallIn(int minute, int wind, int glass) {
        return levelIn(0, minute, wind, glass) - levelIn(1, minute, wind, glass);
    }

    int[] flows(int[] winds, int glass, int turbines) {
        int[] flow = new int[1440];
        flow[0] = now.terms[4];
        for (int m = 0; m < 1439; m++) {
            int f = flow[m];
            int wind = winds[m / 60];
            int fall = fallIn(m, wind, glass);
            Long told = told("gains", fall, f, m, wind, glass, new int[] {0, turbines});
            long gain = told != null ? Math.max(-500, Math.min(500, told))
                    : ((long) fall * now.terms[0]
                        - (long) f * Math.abs(f) * (now.terms[1] + now.terms[7] * turbines) / 1000)
                        / now.terms[2];
            flow[m + 1] = (int) Math.max(-2000, Math.min(2000, f + gain));
        }
        return flow;
    }

    static int[] steady(int wind) {
        int[] winds = new int[24];
        java.util.Arrays.fill(winds, wind);
        return winds;
    }

    int[] today() {
        return flows(steady(now.terms[9]), now.terms[10], 0);
    }

    int level(int end, int minute) {
        return in(end, 0, 1) && in(minute, 0, 1439)
                ? levelIn(end, minute, now.terms[9], now.terms[10]) : NOTHING;
    }

    int flow(int minute) {
        return in(minute, 0, 1439) ? today()[minute] : NOTHING;
    }

    int kind(int cell, int kind) {
        if (!in(cell, 0, 49) || !in(kind, 0, 5)) {
            return no(-1);
        }
        int was = now.kinds[cell];
        now.kinds[cell] = kind;
        return yes(was);
    }

    int flowAt(int[] today, int cell, int minute) {
        int f = today[minute];
        return switch (now.kinds[cell]) {
            case 0 -> 0;
            case 2 -> -today[Math.min(1439, minute + now.terms[5])] / 2;
            case 3 -> f / 4;
            case 4 -> f * 5 / 4;
            default -> f;
        };
    }

    int whiteAt(int[] today, int cell, int minute) {
        int kind = now.kinds[cell];
        if (kind == 0) {
            return 0;
        }
        int f = flowAt(today, cell, minute);
        int wind = now.terms[9];
        Long told = told("white", fallIn(minute, wind, now.terms[10]), f, minute, wind,
                now.terms[10], new int[] {kind, 0});
        long white = -(f * wind / 1000);
        if (told != null) {
            white = told;
        } else if (kind == 5) {
            white = 2 * white;
        } else if (kind == 2 || kind == 3) {
            white = white / 2;
        }
        return (int) Math.max(0, Math.min(99, white));
    }

    int cell(int cell, int minute, int what) {
        if (!in(cell, 0, 49) || !in(minute, 0, 1439) || !in(what, 0, 2)) {
            return NOTHING;
        }
        return what == 2 ? now.kinds[cell]
                : what == 0 ? flowAt(today(), cell, minute) : whiteAt(today(), cell, minute);
    }

    /** First MINUTE and length of each SLACK. */
    List<int[]> slacks(int[] flow) {
        List<int[]> rows = new ArrayList<>();
        boolean before = false;
        for (int m = 0; m < 1440; m++) {
            boolean still = Math.abs(flow[m]) <= now.terms[3];
            if (still && !before) {
                rows.add(new int[] {m, 0});
            }
            if (still) {
                rows.get(rows.size() - 1)[1]++;
            }
            before = still;
        }
        return rows;
    }

    int slack(int i, int what) {
        if (!in(what, 0, 3)) {
            return NOTHING;
        }
        List<int[]> rows = slacks(today());
        if (i == NONE) {
            return rows.size();
        }
        if (!in(i, 0, rows.size() - 1)) {
            return NOTHING;
        }
        int first = rows.get(i)[0];
        if (what < 2) {
            return rows.get(i)[what];
        }
        if (what == 2) {
            return level(0, first) - level(1, first);
        }
        int best = Math.max(0, first - 720);
        for (int m = best; m <= first; m++) {
            if (level(0, m) >= level(0, best)) {
                best = m;
            }
        }
        return first - best;
    }

    int late(int i) {
        List<int[]> a = slacks(today());
        List<int[]> b = slacks(flows(steady(0), 1013, 0));
        return in(i, 0, Math.min(a.size(), b.size()) - 1) ? a.get(i)[0] - b.get(i)[0] : NOTHING;
    }

    // ---- boats

    int boat(int pace, int bears) {
        if (!in(pace, 1, 1500) || !in(bears, 0, 99)) {
            return no(-1);
        }
        if (now.boats.size() == 6) {
            return no(-5);
        }
        now.boats.add(new int[] {pace, bears});
        return yes(now.boats.size() - 1);
    }

    boolean canBe(int[] today, int[] boat, int cell, int minute) {
        return now.kinds[cell] != 0 && whiteAt(today, cell, minute) <= boat[1];
    }

    /** The CELL that a move at a MINUTE leads to, or NONE; whether one can be there is not asked. */
    int go(int[] today, int[] boat, int cell, int minute, int move) {
        int f = flowAt(today, cell, minute);
        int column = cell % 10;
        int line = cell / 10;
        boolean can = move == 1 ? boat[0] + f >= now.terms[6]
                : move == 2 ? boat[0] - f >= now.terms[6] : Math.abs(f) <= boat[0];
        column += move == 1 ? 1 : move == 2 ? -1 : 0;
        line += move == 3 ? 1 : move == 4 ? -1 : 0;
        return can && in(column, 0, 9) && in(line, 0, 4) ? line * 10 + column : NONE;
    }

    boolean known(int boat, int step, int from, int to) {
        return in(boat, 0, now.boats.size() - 1) && in(step, 0, 143) && in(from, 0, 49)
                && in(to, 0, 49);
    }

    /** Per STEP from the first on, the least WHITE together at which one can be in each CELL. */
    int[][] costs(int boat, int step, int from) {
        int[] today = today();
        int[] b = now.boats.get(boat);
        int[][] cost = new int[144][50];
        for (int[] line : cost) {
            java.util.Arrays.fill(line, NONE);
        }
        if (canBe(today, b, from, step * 10)) {
            cost[step][from] = whiteAt(today, from, step * 10);
        }
        for (int s = step; s < 143; s++) {
            for (int c = 0; c < 50; c++) {
                for (int move = 0; move < 5 && cost[s][c] != NONE; move++) {
                    int to = go(today, b, c, s * 10, move);
                    if (to != NONE && canBe(today, b, to, s * 10 + 10)) {
                        int w = cost[s][c] + whiteAt(today, to, s * 10 + 10);
                        if (cost[s + 1][to] == NONE || w < cost[s + 1][to]) {
                            cost[s + 1][to] = w;
                        }
                    }
                }
            }
        }
        return cost;
    }

    int soonest(int boat, int step, int from, int to) {
        if (!known(boat, step, from, to)) {
            return NONE;
        }
        int[][] cost = costs(boat, step, from);
        for (int s = step; s < 144; s++) {
            if (cost[s][to] != NONE) {
                return s;
            }
        }
        return NONE;
    }

    int way(int boat, int step, int from, int to, int at) {
        int last = soonest(boat, step, from, to);
        if (last == NONE || !in(at, step, last)) {
            return NONE;
        }
        int[] today = today();
        int[] b = now.boats.get(boat);
        int[] cells = new int[144];
        java.util.Arrays.fill(cells, NONE);
        cells[step] = from;
        boolean found = search(today, b, cells, step, last, to, new java.util.HashSet<>());
        return found ? cells[at] : -777;
    }

    /** Depth first, lower cells ahead; dead ends are remembered. */
    private boolean search(int[] today, int[] b, int[] cells, int s, int last, int to,
            java.util.Set<Integer> dead) {
        if (s == last) {
            return cells[s] == to;
        }
        if (dead.contains(s * 50 + cells[s])) {
            return false;
        }
        for (int move : new int[] {4, 2, 0, 1, 3}) {
            int c = go(today, b, cells[s], s * 10, move);
            if (c != NONE && canBe(today, b, c, s * 10 + 10)) {
                cells[s + 1] = c;
                if (search(today, b, cells, s + 1, last, to, dead)) {
                    return true;
                }
            }
        }
        dead.add(s * 50 + cells[s]);
        return false;
    }

    int calmest(int boat, int step, int from, int to) {
        if (!known(boat, step, from, to)) {
            return NONE;
        }
        int least = NONE;
        for (int[] line : costs(boat, step, from)) {
            if (line[to] != NONE && (least == NONE || line[to] < least)) {
                least = line[to];
            }
        }
        return least;
    }

    int latest(int boat, int from, int to, int by) {
        if (!known(boat, by, from, to)) {
            return NONE;
        }
        int[] today = today();
        int[] b = now.boats.get(boat);
        boolean[][] good = new boolean[145][50];
        for (int s = by; s >= 0; s--) {
            for (int c = 0; c < 50; c++) {
                if (!canBe(today, b, c, s * 10)) {
                    continue;
                }
                good[s][c] = c == to;
                for (int move = 0; move < 5 && s < by; move++) {
                    int next = go(today, b, c, s * 10, move);
                    good[s][c] |= next != NONE && good[s + 1][next];
                }
            }
            if (good[s][from]) {
                return s;
            }
        }
        return NONE;
    }

    int move(int move) {
        if (!in(move, 0, 4)) {
            return no(-1);
        }
        if (now.plan.size() == 40) {
            return no(-5);
        }
        now.plan.add(move);
        return yes(now.plan.size());
    }

    int tear() {
        int had = now.plan.size();
        now.plan.clear();
        return had;
    }

    int done(int boat, int step, int from, int slip) {
        if (!known(boat, step, from, 0) || !in(slip, -60, 60)) {
            return NONE;
        }
        return doneBy(today(), now.boats.get(boat), step, from, slip);
    }

    private int doneBy(int[] today, int[] b, int step, int from, int slip) {
        int cell = from;
        int s = step;
        if (!canBe(today, b, cell, later(s, slip))) {
            return NONE;
        }
        int did = 0;
        for (int move : now.plan) {
            int to = go(today, b, cell, later(s, slip), move);
            s++;
            if (s > 143 || to == NONE || !canBe(today, b, to, later(s, slip))) {
                break;
            }
            cell = to;
            did++;
        }
        return did;
    }

    private static int later(int step, int slip) {
        return Math.max(0, Math.min(1439, step * 10 + slip));
    }

    int margin(int boat, int step, int from) {
        if (!known(boat, step, from, 0)) {
            return NONE;
        }
        int[] today = today();
        int[] b = now.boats.get(boat);
        int margin = NONE;
        for (int m = 0; m <= 60; m++) {
            boolean all = true;
            for (int slip = -m; slip <= m; slip++) {
                all &= doneBy(today, b, step, from, slip) == now.plan.size();
            }
            if (all) {
                margin = m;
            }
        }
        return margin;
    }

    // ---- ships, turbines

    int ship(int ready, int pass, int limit) {
        if (!in(ready, 0, 1439) || !in(pass, 1, 120) || !in(limit, 0, 2000)) {
            return no(-1);
        }
        if (now.ships.size() == 6) {
            return no(-5);
        }
        now.ships.add(new int[] {ready, pass, limit});
        return yes(now.ships.size() - 1);
    }

    /** Begins in the row of an ORDER, or null if it can't be. */
    int[] begins(int[] today, List<Integer> order) {
        int[] begins = new int[order.size()];
        int free = 0;
        for (int i = 0; i < order.size(); i++) {
            int[] s = now.ships.get(order.get(i));
            int b = Math.max(free, s[0]);
            while (b + s[1] <= 1440 && !passes(today, b, s)) {
                b++;
            }
            if (b + s[1] > 1440) {
                return null;
            }
            begins[i] = b;
            free = b + s[1];
        }
        return begins;
    }

    private static boolean passes(int[] today, int b, int[] s) {
        for (int m = b; m < b + s[1]; m++) {
            if (Math.abs(today[m]) > s[2]) {
                return false;
            }
        }
        return true;
    }

    private static void orders(List<Integer> head, int n, List<List<Integer>> into) {
        if (head.size() == n) {
            into.add(head);
        }
        for (int i = 0; i < n; i++) {
            if (!head.contains(i)) {
                List<Integer> longer = new ArrayList<>(head);
                longer.add(i);
                orders(longer, n, into);
            }
        }
    }

    /** The BEST ORDER, then the begins in its row, then how long all wait; or null. */
    Object[] bestOrder() {
        int[] today = today();
        List<List<Integer>> all = new ArrayList<>();
        orders(new ArrayList<>(), now.ships.size(), all);
        Object[] best = null;
        for (List<Integer> order : all) {
            int[] begins = begins(today, order);
            if (begins == null) {
                continue;
            }
            int wait = 0;
            for (int i = 0; i < begins.length; i++) {
                wait += begins[i] - now.ships.get(order.get(i))[0];
            }
            if (best == null || wait < (Integer) best[2]) {
                best = new Object[] {order, begins, wait};
            }
        }
        return best;
    }

    int order(int i) {
        Object[] best = bestOrder();
        if (best == null || !in(i, NONE, now.ships.size() - 1)) {
            return NONE;
        }
        return i == NONE ? (Integer) best[2] : (Integer) ((List<?>) best[0]).get(i);
    }

    int begins(int ship) {
        Object[] best = bestOrder();
        if (best == null || !in(ship, 0, now.ships.size() - 1)) {
            return NONE;
        }
        return ((int[]) best[1])[((List<?>) best[0]).indexOf(ship)];
    }

    long taken(int n) {
        if (!in(n, 0, 20)) {
            return NONE;
        }
        long sum = 0;
        for (int f : flows(steady(now.terms[9]), now.terms[10], n)) {
            long a = Math.abs(f);
            sum += n * a * a * a / 1000000;
        }
        return sum;
    }

    int most(int what, int minute) {
        if (what != 0 && (what != 1 || !in(minute, 0, 1439))) {
            return NOTHING;
        }
        int best = 0;
        for (int n = 0; n <= 20; n++) {
            if (taken(n) > taken(best)) {
                best = n;
            }
        }
        return what == 0 ? best : flows(steady(now.terms[9]), now.terms[10], best)[minute];
    }

    // ---- floats, the rule, lost things, drawn days

    int cast(int minute, int level) {
        if (!in(minute, 0, 1439) || !in(level, -9999, 9999)) {
            return no(-1);
        }
        if (now.floats.size() == 12) {
            return no(-5);
        }
        now.floats.add(new int[] {minute, level});
        return yes(now.floats.size() - 1);
    }

    /** Pairs that AGREE with all FLOATS but one, by HEIGHT, then PHASE. */
    List<int[]> pairs(int moon, int without) {
        List<int[]> pairs = new ArrayList<>();
        int[] m = now.moon[0][moon];
        int[] was = m.clone();
        for (int h = 0; h <= 500; h += 10) {
            for (int p = 0; p < was[1]; p += 10) {
                m[0] = h;
                m[2] = p;
                boolean all = true;
                for (int i = 0; i < now.floats.size() && all; i++) {
                    int[] f = now.floats.get(i);
                    all = i == without || Math.abs(level(0, f[0]) - f[1]) <= now.terms[8];
                }
                if (all) {
                    pairs.add(new int[] {h, p});
                }
            }
        }
        System.arraycopy(was, 0, m, 0, 3);
        return pairs;
    }

    int agree(int moon, int what) {
        if (!in(moon, 0, 3) || !in(what, 0, 5)) {
            return NONE;
        }
        List<int[]> pairs = pairs(moon, NONE);
        if (what == 0) {
            return pairs.size();
        }
        if (pairs.isEmpty()) {
            return NONE;
        }
        java.util.stream.IntStream s = pairs.stream().mapToInt(p -> p[what < 3 ? 0 : 1]);
        return what == 5 ? pairs.get(0)[1]
                : what == 1 || what == 3 ? s.min().getAsInt() : s.max().getAsInt();
    }

    int tells(int moon) {
        if (!in(moon, 0, 3) || now.floats.isEmpty()) {
            return NONE;
        }
        int best = 0;
        int most = -1;
        for (int i = 0; i < now.floats.size(); i++) {
            int n = pairs(moon, i).size();
            if (n > most) {
                most = n;
                best = i;
            }
        }
        return best;
    }

    /** Per MINUTE the latest HIGH, or NONE. */
    int[] highs() {
        int[] latest = new int[1440];
        int high = NONE;
        for (int m = 0; m < 1440; m++) {
            if (in(m, 60, 1379)) {
                boolean is = true;
                for (int k = 1; k <= 60; k++) {
                    is &= level(0, m) > level(0, m - k) && level(0, m) >= level(0, m + k);
                }
                high = is ? m : high;
            }
            latest[m] = high;
        }
        return latest;
    }

    private int rightBy(int[] today, int[] highs, int a, int b) {
        int right = 0;
        for (int m = 0; m < 1440; m++) {
            if (highs[m] != NONE) {
                boolean told = in(m - highs[m], a, b);
                right += told == Math.abs(today[m]) <= now.terms[3] ? 1 : 0;
            }
        }
        return right;
    }

    int right(int a, int b) {
        return in(a, 0, 1439) && in(b, 0, 1439) ? rightBy(today(), highs(), a, b) : NONE;
    }

    int mark(int width) {
        int[] highs = highs();
        if (!in(width, 0, 720) || highs[1439] == NONE) {
            return NONE;
        }
        int[] today = today();
        int best = 0;
        int most = -1;
        for (int a = 0; a < 720; a++) {
            int n = rightBy(today, highs, a, a + width);
            if (n > most) {
                most = n;
                best = a;
            }
        }
        return best;
    }

    int lost(int cell, int step, int n, int where) {
        if (!in(cell, 0, 49) || !in(step, 0, 143) || !in(n, 0, 6) || step + n > 143
                || !in(where, 0, 51) || now.kinds[cell] == 0) {
            return NONE;
        }
        java.math.BigInteger shares = ways(today(), cell, step, n, where);
        java.math.BigInteger whole = java.math.BigInteger.valueOf(200).pow(n);
        return shares.multiply(java.math.BigInteger.valueOf(1000000)).divide(whole).intValue();
    }

    private java.math.BigInteger ways(int[] today, int cell, int step, int n, int where) {
        if (n == 0 || cell >= 50) {
            java.math.BigInteger whole = java.math.BigInteger.valueOf(200).pow(n);
            return cell == where ? whole : java.math.BigInteger.ZERO;
        }
        int f = flowAt(today, cell, step * 10);
        int p = Math.min(100, Math.abs(f) / 10);
        java.math.BigInteger sum = java.math.BigInteger.ZERO;
        int[][] goes = {{cell % 10 + Integer.signum(f), cell / 10, 2 * p},
            {cell % 10, cell / 10 + 1, 100 - p}, {cell % 10, cell / 10 - 1, 100 - p}};
        for (int[] g : goes) {
            if (g[2] != 0) {
                int to = !in(g[0], 0, 9) ? 50 : !in(g[1], 0, 4) ? 51 : g[1] * 10 + g[0];
                to = to < 50 && now.kinds[to] == 0 ? 51 : to;
                sum = sum.add(ways(today, to, step + 1, n - 1, where)
                        .multiply(java.math.BigInteger.valueOf(g[2])));
            }
        }
        return sum;
    }

    int day(int seed) {
        if (!in(seed, 0, 1000000)) {
            return no(-1);
        }
        int[] winds = new int[24];
        long s = seed;
        for (int h = 0; h < 24; h++) {
            s = (s * 1103 + 12345) % 1000003;
            winds[h] = (int) (s % 41) - 20;
        }
        drawn = flows(winds, now.terms[10], 0);
        return yes(slacks(drawn).size());
    }

    int drawn(int minute) {
        return drawn != null && in(minute, 0, 1439) ? drawn[minute] : NOTHING;
    }

    int image(int k) {
        if (!in(k, 0, 1)) {
            return no(-1);
        }
        images[k] = now.copy();
        return yes(0);
    }

    int back(int k) {
        if (!in(k, 0, 1)) {
            return no(-1);
        }
        if (images[k] == null) {
            return no(-2);
        }
        now = images[k].copy();
        return yes(0);
    }

    int count(int what) {
        int[] counts = {now.boats.size(), now.ships.size(), now.laws.size(), now.plan.size(),
            now.floats.size(), tape.size(), refused[1], refused[2], refused[5], refused[6],
            now.force};
        return in(what, 0, 10) ? counts[what] : NONE;
    }
}
