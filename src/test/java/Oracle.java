import java.util.ArrayList;
import java.util.HashMap;
import java.util.List;
import java.util.Map;
import java.util.NoSuchElementException;

/**
 * A second office with the same face, for comparing. It follows the words of the document with the
 * plainest means: every question of the plan is asked as "can this be carried?", nothing is kept
 * between the calls but deep copies, and nothing is shared with the program but the document.
 */
public final class Oracle {
    static final int NONE = -1;
    static final String FIRST =
        "basin;place 20 8;place 0 0;place 10 0;place 0 0;reach 0 1 12 0;reach 1 2 8 1;reach 1 3 6 0;reach 2 3 5 0;"
        + "right 3 1862 1 coins 30 ask 0 7 7;right 1 1880 0 ask 2 5 6;right 2 1875 2 coins 8 ask 1 6 4;right 0 1901 0 ask 0 7 3;"
        + "inflow 0 0 6 6 9 12 8 4 2 2;inflow 0 1 1 1 2 2 1 0 0 0;inflow 1 0 4 4 6 8 5 3 1 1;inflow 2 0 9 9 12 15 12 8 5 4;"
        + "inflow 2 1 2 2 3 3 2 1 0 0;";

    // ---------------------------------------------------------------- state

    static final class P {
        int cap;
        int storage;
        int[] storagePast = new int[8];
        int[] ranPast = new int[8];
        int[][] inflow = new int[3][8];

        P copy() {
            P p = new P();
            p.cap = cap;
            p.storage = storage;
            p.storagePast = storagePast.clone();
            p.ranPast = ranPast.clone();
            for (int s = 0; s < 3; s++) {
                p.inflow[s] = inflow[s].clone();
            }
            return p;
        }
    }

    static final class Rc {
        int from;
        int to;
        int time;
        int[] cap = new int[8];
        int[] sentPast = new int[8];

        Rc copy() {
            Rc r = new Rc();
            r.from = from;
            r.to = to;
            r.time = time;
            r.cap = cap.clone();
            r.sentPast = sentPast.clone();
            return r;
        }
    }

    static final class Rt {
        int place;
        int year;
        int price;
        int balance;
        int root;
        int lessor = NONE;
        boolean abandoned;
        int[] ask = new int[8];
        List<String> decree = new ArrayList<>();
        int[] askedPast = new int[8];
        int[] gotPast = new int[8];

        Rt copy() {
            Rt r = new Rt();
            r.place = place;
            r.year = year;
            r.price = price;
            r.balance = balance;
            r.root = root;
            r.lessor = lessor;
            r.abandoned = abandoned;
            r.ask = ask.clone();
            r.decree = new ArrayList<>(decree);
            r.askedPast = askedPast.clone();
            r.gotPast = gotPast.clone();
            return r;
        }
    }

    static final class St {
        int today;
        List<P> places = new ArrayList<>();
        List<Rc> reaches = new ArrayList<>();
        List<Rt> rights = new ArrayList<>();
        Map<Integer, int[][]> plans = new HashMap<>();
        Way way;

        St copy() {
            St s = new St();
            s.today = today;
            for (P p : places) {
                s.places.add(p.copy());
            }
            for (Rc r : reaches) {
                s.reaches.add(r.copy());
            }
            for (Rt r : rights) {
                s.rights.add(r.copy());
            }
            return s;
        }
    }

    static final class Way {
        int[][] sent;
        int[][] stored;
        int[][] ran;
    }

    static final class Br {
        St now;
        List<St> undo = new ArrayList<>();
        List<St> redo = new ArrayList<>();
    }

    private List<Br> branches = new ArrayList<>();
    private Br br = new Br();
    private StringBuilder buffer = new StringBuilder();
    private int errorAt = NONE;
    private String written = "";
    private boolean[][] marks = new boolean[6][8];
    private int changed = 0;

    public Oracle() {
        br.now = new Parser(FIRST).basin();
        branches.add(br);
    }

    // ---------------------------------------------------------------- reading

    static final class Misfit extends RuntimeException {
        private static final long serialVersionUID = 1;
        final int at;

        Misfit(int at) {
            this.at = at;
        }
    }

    static final class Parser {
        final String text;
        int at = 0;
        List<String> kept = null;

        Parser(String text) {
            this.text = text;
        }

        int skip() {
            while (at < text.length() && text.charAt(at) == ' ') {
                at++;
            }
            return at;
        }

        /** The next token; "" at the end, null if it is none. */
        String peek() {
            int start = skip();
            if (start == text.length()) {
                return "";
            }
            int end = start;
            while (end < text.length() && text.charAt(end) >= 'a' && text.charAt(end) <= 'z') {
                end++;
            }
            if (end > start) {
                return text.substring(start, end);
            }
            while (end < text.length() && text.charAt(end) >= '0' && text.charAt(end) <= '9') {
                end++;
            }
            if (end > start) {
                return end - start > 4 ? null : text.substring(start, end);
            }
            return ";(),+-*/<>=".indexOf(text.charAt(start)) >= 0 ? text.substring(start, start + 1) : null;
        }

        Misfit misfit() {
            return new Misfit(skip());
        }

        boolean is(String token) {
            return token.equals(peek());
        }

        boolean isNumber() {
            String p = peek();
            return p != null && !p.isEmpty() && Character.isDigit(p.charAt(0));
        }

        String next() {
            String p = peek();
            at = skip() + p.length();
            return p;
        }

        void want(String token) {
            if (!is(token)) {
                throw misfit();
            }
            next();
        }

        int number(int low, int high) {
            if (!isNumber()) {
                throw misfit();
            }
            int n = Integer.parseInt(peek());
            if (n < low || n > high) {
                throw misfit();
            }
            next();
            return n;
        }

        St basin() {
            St s = new St();
            want("basin");
            want(";");
            while (!is("")) {
                if (is("place") && s.places.size() < 6) {
                    next();
                    P p = new P();
                    p.cap = number(0, 60);
                    p.storage = number(0, p.cap);
                    s.places.add(p);
                } else if (is("reach") && s.reaches.size() < 9) {
                    next();
                    reach(s);
                } else if (is("right") && s.rights.size() < 10) {
                    next();
                    right(s);
                } else if (is("inflow")) {
                    next();
                    int scenario = number(0, 2);
                    int place = number(0, s.places.size() - 1);
                    int[] row = s.places.get(place).inflow[scenario];
                    row[0] = number(0, 40);
                    for (int w = 1; isNumber(); w++) {
                        if (w == 8) {
                            throw misfit();
                        }
                        row[w] = number(0, 40);
                    }
                } else {
                    throw misfit();
                }
                want(";");
            }
            return s;
        }

        void reach(St s) {
            Rc r = new Rc();
            r.from = number(0, s.places.size() - 1);
            int before = at;
            r.to = number(0, s.places.size() - 1);
            if (r.to == r.from) {
                at = before;
                throw misfit();
            }
            java.util.Arrays.fill(r.cap, number(0, 50));
            r.time = number(0, 2);
            while (is("week")) {
                next();
                int w = number(0, 7);
                r.cap[w] = number(0, 50);
            }
            s.reaches.add(r);
        }

        void right(St s) {
            Rt r = new Rt();
            r.root = s.rights.size();
            r.place = number(0, s.places.size() - 1);
            r.year = number(1800, 2099);
            r.price = number(0, 9);
            while (true) {
                if (is("coins")) {
                    next();
                    r.balance = number(0, 1000);
                } else if (is("ask")) {
                    next();
                    int first = number(0, 7);
                    int last = number(first, 7);
                    java.util.Arrays.fill(r.ask, first, last + 1, number(0, 20));
                } else if (is("decree")) {
                    next();
                    r.decree = decree();
                } else {
                    break;
                }
            }
            s.rights.add(r);
        }

        List<String> decree() {
            kept = new ArrayList<>();
            expression(0);
            return kept;
        }

        void keep() {
            if (kept.size() == 60) {
                throw misfit();
            }
            String t = isNumber() ? "" + Integer.parseInt(peek()) : peek();
            next();
            kept.add(t);
        }

        void keep(String token) {
            if (!is(token)) {
                throw misfit();
            }
            keep();
        }

        void open(String token, int open) {
            if (!is(token) || open == 8) {
                throw misfit();
            }
            keep();
        }

        void expression(int open) {
            if (!is("if")) {
                sum(open);
                return;
            }
            open("if", open);
            sum(open + 1);
            if (!is("<") && !is(">") && !is("=")) {
                throw misfit();
            }
            keep();
            sum(open + 1);
            keep("then");
            expression(open + 1);
            keep("else");
            expression(open + 1);
        }

        void sum(int open) {
            product(open);
            while (is("+") || is("-")) {
                keep();
                product(open);
            }
        }

        void product(int open) {
            factor(open);
            while (is("*") || is("/")) {
                keep();
                factor(open);
            }
        }

        void factor(int open) {
            if (isNumber() || is("week")) {
                keep();
            } else if (is("flow") || is("total")) {
                keep();
                open("(", open);
                expression(open + 1);
                keep(")");
            } else if (is("least") || is("most")) {
                keep();
                open("(", open);
                expression(open + 1);
                keep(",");
                expression(open + 1);
                keep(")");
            } else {
                open("(", open);
                expression(open + 1);
                keep(")");
            }
        }
    }

    // ---------------------------------------------------------------- decrees

    static final class Eval {
        final List<String> t;
        final St s;
        final int scenario;
        final int week;
        int at = 0;

        Eval(St s, List<String> t, int scenario, int week) {
            this.s = s;
            this.t = t;
            this.scenario = scenario;
            this.week = week;
        }

        String peek() {
            return at < t.size() ? t.get(at) : "";
        }

        int expression() {
            if (!peek().equals("if")) {
                return sum();
            }
            at++;
            int a = sum();
            String c = t.get(at++);
            int b = sum();
            at++;
            int yes = expression();
            at++;
            int no = expression();
            boolean holds = c.equals("<") ? a < b : c.equals(">") ? a > b : a == b;
            return holds ? yes : no;
        }

        int sum() {
            long v = product();
            while (peek().equals("+") || peek().equals("-")) {
                boolean plus = t.get(at++).equals("+");
                long n = product();
                v = (int) (plus ? v + n : v - n);
            }
            return (int) v;
        }

        int product() {
            long v = factor();
            while (peek().equals("*") || peek().equals("/")) {
                boolean times = t.get(at++).equals("*");
                long n = factor();
                v = (int) (times ? v * n : n == 0 ? 0 : v / n);
            }
            return (int) v;
        }

        int factor() {
            String x = t.get(at++);
            switch (x) {
                case "week":
                    return week;
                case "flow": {
                    at++;
                    int p = expression();
                    at++;
                    return p < 0 || p >= s.places.size() ? 0 : s.places.get(p).inflow[scenario][week];
                }
                case "total": {
                    at++;
                    int p = expression();
                    at++;
                    return p < 0 || p >= s.places.size() ? 0
                        : java.util.Arrays.stream(s.places.get(p).inflow[scenario]).sum();
                }
                case "least":
                case "most": {
                    at++;
                    int a = expression();
                    at++;
                    int b = expression();
                    at++;
                    return x.equals("least") ? Math.min(a, b) : Math.max(a, b);
                }
                case "(": {
                    int v = expression();
                    at++;
                    return v;
                }
                default:
                    return Integer.parseInt(x);
            }
        }
    }

    static int asked(St s, int scenario, int right, int week) {
        Rt r = s.rights.get(right);
        if (week < s.today) {
            return r.askedPast[week];
        }
        if (r.balance < 0 || r.abandoned) {
            return 0;
        }
        if (r.decree.isEmpty()) {
            return r.ask[week];
        }
        return Math.max(0, Math.min(r.ask[week], new Eval(s, r.decree, scenario, week).expression()));
    }

    // ---------------------------------------------------------------- carrying

    /** The water at a node from inflow, present storage, and what is on its way. */
    static int comes(St s, int scenario, int place, int week) {
        int water = s.places.get(place).inflow[scenario][week];
        if (week == s.today) {
            water += s.places.get(place).storage;
        }
        for (Rc r : s.reaches) {
            for (int w = 0; w < s.today; w++) {
                if (r.to == place && w + r.time == week) {
                    water += r.sentPast[w];
                }
            }
        }
        return water;
    }

    /** A small flow network with arcs in lists. */
    static final class Net {
        int[] head = new int[60];
        int[] next = new int[600];
        int[] to = new int[600];
        int[] cap = new int[600];
        int arcs = 0;

        Net() {
            java.util.Arrays.fill(head, -1);
        }

        void arc(int from, int end, int capacity) {
            half(from, end, capacity);
            half(end, from, 0);
        }

        private void half(int from, int end, int capacity) {
            to[arcs] = end;
            cap[arcs] = capacity;
            next[arcs] = head[from];
            head[from] = arcs++;
        }

        int flow(int from, int end) {
            int sum = 0;
            while (true) {
                int more = push(from, end, 1 << 20, new boolean[60]);
                if (more == 0) {
                    return sum;
                }
                sum += more;
            }
        }

        private int push(int node, int end, int most, boolean[] seen) {
            if (node == end) {
                return most;
            }
            seen[node] = true;
            for (int a = head[node]; a >= 0; a = next[a]) {
                if (cap[a] > 0 && !seen[to[a]]) {
                    int got = push(to[a], end, Math.min(most, cap[a]), seen);
                    if (got > 0) {
                        cap[a] -= got;
                        cap[a ^ 1] += got;
                        return got;
                    }
                }
            }
            return 0;
        }
    }

    /** Whether amounts can be carried, with some sendings fixed (null or NONE: free), and more inflow at a node. */
    static boolean canCarry(St s, int scenario, int[][] amounts, int[][] fixed, int extraPlace, int extraWeek) {
        int n = s.places.size();
        int[][] net = new int[n][8];
        for (int p = 0; p < n; p++) {
            for (int w = s.today; w < 8; w++) {
                net[p][w] = comes(s, scenario, p, w) + (p == extraPlace && w == extraWeek ? 1 : 0);
            }
        }
        for (int r = 0; r < s.rights.size(); r++) {
            for (int w = s.today; w < 8; w++) {
                net[s.rights.get(r).place][w] -= amounts[r][w];
            }
        }
        Net g = new Net();
        for (int i = 0; i < s.reaches.size(); i++) {
            Rc r = s.reaches.get(i);
            for (int w = s.today; w < 8; w++) {
                if (fixed != null && fixed[i][w] != NONE) {
                    net[r.from][w] -= fixed[i][w];
                    if (w + r.time < 8) {
                        net[r.to][w + r.time] += fixed[i][w];
                    }
                } else if (w + r.time < 8) {
                    g.arc(r.from * 8 + w, r.to * 8 + w + r.time, r.cap[w]);
                }
            }
        }
        int need = 0;
        for (int p = 0; p < n; p++) {
            for (int w = s.today; w < 8; w++) {
                if (w < 7) {
                    g.arc(p * 8 + w, p * 8 + w + 1, s.places.get(p).cap);
                }
                if (net[p][w] > 0) {
                    g.arc(50, p * 8 + w, net[p][w]);
                } else if (net[p][w] < 0) {
                    g.arc(p * 8 + w, 51, -net[p][w]);
                    need -= net[p][w];
                }
            }
        }
        return g.flow(50, 51) == need;
    }

    static boolean older(St s, int a, int b) {
        Rt x = s.rights.get(a);
        Rt y = s.rights.get(b);
        return x.year != y.year ? x.year < y.year : x.root != y.root ? x.root < y.root : a < b;
    }

    static List<Integer> bySeniority(St s) {
        List<Integer> order = new ArrayList<>();
        for (int r = 0; r < s.rights.size(); r++) {
            order.add(r);
        }
        order.sort((a, b) -> a.equals(b) ? 0 : older(s, a, b) ? -1 : 1);
        return order;
    }

    static int[][] plan(St s, int scenario) {
        int[][] known = s.plans.get(scenario);
        if (known != null) {
            return known;
        }
        int[][] amounts = new int[s.rights.size()][8];
        for (int r : bySeniority(s)) {
            for (int w = s.today; w < 8; w++) {
                int low = 0;
                int high = asked(s, scenario, r, w);
                while (low < high) {
                    int middle = (low + high + 1) / 2;
                    amounts[r][w] = middle;
                    if (canCarry(s, scenario, amounts, null, NONE, NONE)) {
                        low = middle;
                    } else {
                        high = middle - 1;
                    }
                }
                amounts[r][w] = low;
            }
        }
        for (int r = 0; r < s.rights.size(); r++) {
            System.arraycopy(s.rights.get(r).gotPast, 0, amounts[r], 0, s.today);
        }
        s.plans.put(scenario, amounts);
        return amounts;
    }

    static Way way(St s) {
        if (s.way != null) {
            return s.way;
        }
        int[][] amounts = plan(s, 0);
        int[][] fixed = new int[s.reaches.size()][8];
        for (int[] row : fixed) {
            java.util.Arrays.fill(row, NONE);
        }
        for (int w = s.today; w < 8; w++) {
            for (int i = 0; i < s.reaches.size(); i++) {
                int sending = 0;
                fixed[i][w] = 0;
                while (!canCarry(s, 0, amounts, fixed, NONE, NONE)) {
                    sending++;
                    fixed[i][w] = sending;
                    if (sending > s.reaches.get(i).cap[w]) {
                        throw new IllegalStateException("no sending fits");
                    }
                }
            }
        }
        Way way = new Way();
        way.sent = fixed;
        way.stored = new int[s.places.size()][8];
        way.ran = new int[s.places.size()][8];
        for (int w = s.today; w < 8; w++) {
            for (int p = 0; p < s.places.size(); p++) {
                int left = comes(s, 0, p, w) + (w > s.today ? way.stored[p][w - 1] : 0);
                for (int i = 0; i < s.reaches.size(); i++) {
                    Rc r = s.reaches.get(i);
                    left -= r.from == p ? fixed[i][w] : 0;
                    left += r.to == p && w - r.time >= s.today ? fixed[i][w - r.time] : 0;
                }
                for (int r = 0; r < s.rights.size(); r++) {
                    left -= s.rights.get(r).place == p ? amounts[r][w] : 0;
                }
                if (left < 0) {
                    throw new IllegalStateException("more is taken than comes");
                }
                way.stored[p][w] = Math.min(left, s.places.get(p).cap);
                way.ran[p][w] = left - way.stored[p][w];
            }
        }
        s.way = way;
        return way;
    }

    // ---------------------------------------------------------------- witnesses

    static int waterInto(St s, boolean[][] set) {
        int water = 0;
        for (int p = 0; p < s.places.size(); p++) {
            for (int w = s.today; w < 8; w++) {
                if (set[p][w]) {
                    water += comes(s, 0, p, w);
                    water += w > s.today && !set[p][w - 1] ? s.places.get(p).cap : 0;
                }
            }
        }
        for (Rc r : s.reaches) {
            for (int w = s.today; w + r.time < 8; w++) {
                water += set[r.to][w + r.time] && !set[r.from][w] ? r.cap[w] : 0;
            }
        }
        return water;
    }

    static int takenIn(St s, boolean[][] set, int right, int week) {
        int sum = 0;
        for (int r = 0; r < s.rights.size(); r++) {
            for (int w = s.today; w < 8; w++) {
                if (set[s.rights.get(r).place][w] && (older(s, r, right) || r == right && w <= week)) {
                    sum += plan(s, 0)[r][w];
                }
            }
        }
        return sum;
    }

    /** A node is in the witness if one unit more there would let the amount be greater. */
    static boolean[][] witness(St s, int right, int week) {
        int[][] amounts = new int[s.rights.size()][8];
        for (int r = 0; r < s.rights.size(); r++) {
            for (int w = s.today; w < 8; w++) {
                if (older(s, r, right) || r == right && w <= week) {
                    amounts[r][w] = plan(s, 0)[r][w];
                }
            }
        }
        amounts[right][week]++;
        boolean[][] set = new boolean[6][8];
        for (int p = 0; p < s.places.size(); p++) {
            for (int w = s.today; w < 8; w++) {
                set[p][w] = canCarry(s, 0, amounts, null, p, w);
            }
        }
        if (!set[s.rights.get(right).place][week] || waterInto(s, set) != takenIn(s, set, right, week)) {
            throw new IllegalStateException("the oracle's witness does not hold the amount down");
        }
        checkLeast(s, set, right, week);
        return set;
    }

    /** Of few nodes all sets are tried: the witness must be the intersection of those that hold the amount down. */
    private static void checkLeast(St s, boolean[][] set, int right, int week) {
        int weeks = 8 - s.today;
        int nodes = s.places.size() * weeks;
        if (nodes > 9) {
            return;
        }
        boolean[][] least = new boolean[6][8];
        for (boolean[] row : least) {
            java.util.Arrays.fill(row, true);
        }
        for (int bits = 0; bits < 1 << nodes; bits++) {
            boolean[][] tried = new boolean[6][8];
            for (int n = 0; n < nodes; n++) {
                tried[n / weeks][s.today + n % weeks] = (bits >> n & 1) != 0;
            }
            if (tried[s.rights.get(right).place][week] && waterInto(s, tried) == takenIn(s, tried, right, week)) {
                for (int p = 0; p < 6; p++) {
                    for (int w = 0; w < 8; w++) {
                        least[p][w] &= tried[p][w];
                    }
                }
            }
        }
        if (!java.util.Arrays.deepEquals(least, set)) {
            throw new IllegalStateException("the oracle's witness is not the least");
        }
    }

    // ---------------------------------------------------------------- checks

    private St now() {
        return br.now;
    }

    private static void index(boolean fits) {
        if (!fits) {
            throw new IndexOutOfBoundsException();
        }
    }

    private static void argument(boolean fits) {
        if (!fits) {
            throw new IllegalArgumentException();
        }
    }

    private static void state(boolean fits) {
        if (!fits) {
            throw new IllegalStateException();
        }
    }

    private boolean isPlace(int p) {
        return p >= 0 && p < now().places.size();
    }

    private boolean isReach(int r) {
        return r >= 0 && r < now().reaches.size();
    }

    private boolean isRight(int r) {
        return r >= 0 && r < now().rights.size();
    }

    private static boolean in(int v, int low, int high) {
        return low <= v && v <= high;
    }

    private static boolean span(int first, int last) {
        return in(first, 0, 7) && in(last, first, 7);
    }

    private St change() {
        br.undo.add(br.now);
        if (br.undo.size() > 6) {
            br.undo.remove(0);
        }
        br.redo.clear();
        br.now = br.now.copy();
        return br.now;
    }

    private void tell(St before) {
        St after = br.now;
        changed = 0;
        for (int r = 0; r < after.rights.size(); r++) {
            for (int w = after.today; w < 8; w++) {
                int old = r < before.rights.size() ? plan(before, 0)[r][w] : 0;
                changed += old != plan(after, 0)[r][w] ? 1 : 0;
            }
        }
    }

    private void tellChange() {
        tell(br.undo.get(br.undo.size() - 1));
    }

    // ---------------------------------------------------------------- the face

    public int append(int a, int b, int c, int d, int e) {
        StringBuilder more = new StringBuilder();
        for (int word : new int[] {a, b, c, d, e}) {
            for (byte one : new byte[] {(byte) (word >> 24), (byte) (word >> 16), (byte) (word >> 8), (byte) word}) {
                if (one != 0) {
                    more.append((char) (one & 0xff));
                }
            }
        }
        state(buffer.length() + more.length() <= 900);
        buffer.append(more);
        return buffer.length();
    }

    public int clearText() {
        int n = buffer.length();
        buffer.setLength(0);
        return n;
    }

    public int readBasin() {
        String text = buffer.toString();
        buffer.setLength(0);
        St read;
        try {
            read = new Parser(text).basin();
        } catch (Misfit m) {
            errorAt = m.at;
            throw new IllegalArgumentException();
        }
        errorAt = NONE;
        change();
        br.now = read;
        tellChange();
        return read.rights.size();
    }

    public int errorPosition() {
        return errorAt;
    }

    public int writeBasin() {
        List<String> parts = new ArrayList<>();
        parts.add("basin");
        for (P p : now().places) {
            parts.add("place " + p.cap + " " + p.storage);
        }
        for (Rc r : now().reaches) {
            String t = "reach " + r.from + " " + r.to + " " + r.cap[0] + " " + r.time;
            for (int w = 1; w < 8; w++) {
                t += r.cap[w] == r.cap[0] ? "" : " week " + w + " " + r.cap[w];
            }
            parts.add(t);
        }
        for (Rt r : now().rights) {
            String t = "right " + r.place + " " + r.year + " " + r.price;
            t += r.balance > 0 ? " coins " + Math.min(1000, r.balance) : "";
            for (int w = 0; w < 8;) {
                int end = w;
                while (end < 8 && r.ask[end] == r.ask[w]) {
                    end++;
                }
                t += r.ask[w] > 0 ? " ask " + w + " " + (end - 1) + " " + r.ask[w] : "";
                w = end;
            }
            t += r.decree.isEmpty() ? "" : " decree " + String.join(" ", r.decree);
            parts.add(t);
        }
        for (int s = 0; s < 3; s++) {
            for (int p = 0; p < now().places.size(); p++) {
                int[] row = now().places.get(p).inflow[s];
                if (java.util.Arrays.stream(row).sum() > 0) {
                    String t = "inflow " + s + " " + p;
                    for (int amount : row) {
                        t += " " + amount;
                    }
                    parts.add(t);
                }
            }
        }
        written = String.join(";", parts) + ";";
        return written.length();
    }

    public int writtenAt(int index) {
        index(index >= 0 && index < written.length());
        return written.charAt(index);
    }

    public int addPlace(int capacity, int storage) {
        argument(in(capacity, 0, 60) && in(storage, 0, capacity));
        state(now().places.size() < 6);
        P p = new P();
        p.cap = capacity;
        p.storage = storage;
        change().places.add(p);
        tellChange();
        return now().places.size() - 1;
    }

    public int addReach(int from, int to, int capacity, int time) {
        index(isPlace(from) && isPlace(to));
        argument(from != to && in(capacity, 0, 50) && in(time, 0, 2));
        state(now().reaches.size() < 9);
        Rc r = new Rc();
        r.from = from;
        r.to = to;
        r.time = time;
        java.util.Arrays.fill(r.cap, capacity);
        change().reaches.add(r);
        tellChange();
        return now().reaches.size() - 1;
    }

    public int setCapacity(int reach, int week, int capacity) {
        index(isReach(reach));
        argument(in(week, 0, 7) && in(capacity, 0, 50));
        state(week >= now().today);
        int before = now().reaches.get(reach).cap[week];
        change().reaches.get(reach).cap[week] = capacity;
        tellChange();
        return before;
    }

    public int addRight(int place, int year, int price) {
        index(isPlace(place));
        argument(in(year, 1800, 2099) && in(price, 0, 9));
        state(now().rights.size() < 10);
        Rt r = new Rt();
        r.place = place;
        r.year = year;
        r.price = price;
        r.root = now().rights.size();
        change().rights.add(r);
        tellChange();
        return r.root;
    }

    public int setAsk(int right, int first, int last, int amount) {
        index(isRight(right));
        argument(span(first, last) && in(amount, 0, 20));
        state(first >= now().today && !now().rights.get(right).abandoned);
        int[] ask = change().rights.get(right).ask;
        int count = 0;
        for (int w = first; w <= last; w++) {
            count += ask[w] != amount ? 1 : 0;
            ask[w] = amount;
        }
        tellChange();
        return count;
    }

    public int setDecree(int right) {
        index(isRight(right));
        state(!now().rights.get(right).abandoned);
        String text = buffer.toString();
        buffer.setLength(0);
        List<String> tokens = new ArrayList<>();
        try {
            Parser p = new Parser(text);
            if (!p.is("")) {
                tokens = p.decree();
                p.want("");
            }
        } catch (Misfit m) {
            errorAt = m.at;
            throw new IllegalArgumentException();
        }
        errorAt = NONE;
        change().rights.get(right).decree = tokens;
        tellChange();
        return tokens.size();
    }

    public int abandon(int right) {
        index(isRight(right));
        state(!now().rights.get(right).abandoned);
        int lost = future(now(), right);
        change().rights.get(right).abandoned = true;
        tellChange();
        return lost;
    }

    private static int future(St s, int right) {
        int sum = 0;
        for (int w = s.today; w < 8; w++) {
            sum += plan(s, 0)[right][w];
        }
        return sum;
    }

    public int fund(int right, int coins) {
        index(isRight(right));
        argument(in(coins, 1, 1000));
        state(now().rights.get(right).balance + coins <= 1000000);
        Rt r = change().rights.get(right);
        r.balance += coins;
        tellChange();
        return r.balance;
    }

    private boolean mayLease(int right, int amount, int first, int last) {
        Rt r = now().rights.get(right);
        boolean may = first >= now().today && !r.abandoned && r.balance >= 0 && now().rights.size() < 10;
        for (int w = first; w <= last; w++) {
            may &= r.ask[w] >= amount;
        }
        return may;
    }

    private static void doLease(St s, int right, int place, int amount, int first, int last) {
        Rt lessor = s.rights.get(right);
        Rt r = new Rt();
        r.place = place;
        r.year = lessor.year;
        r.price = lessor.price;
        r.root = lessor.root;
        r.lessor = right;
        for (int w = first; w <= last; w++) {
            lessor.ask[w] -= amount;
            r.ask[w] = amount;
        }
        s.rights.add(r);
    }

    private int injured(int right, int place, int amount, int first, int last) {
        St with = now().copy();
        doLease(with, right, place, amount, first, last);
        for (int s = 0; s < 3; s++) {
            for (int r = 0; r < now().rights.size(); r++) {
                for (int w = now().today; w < 8; w++) {
                    if (r != right && plan(with, s)[r][w] < plan(now(), s)[r][w]) {
                        return r;
                    }
                }
            }
        }
        return NONE;
    }

    public int lease(int right, int place, int amount, int first, int last) {
        index(isRight(right) && isPlace(place));
        argument(in(amount, 1, 20) && span(first, last));
        state(mayLease(right, amount, first, last));
        state(injured(right, place, amount, first, last) == NONE);
        doLease(change(), right, place, amount, first, last);
        tellChange();
        return now().rights.size() - 1;
    }

    public int setInflow(int scenario, int place, int week, int amount) {
        index(in(scenario, 0, 2) && isPlace(place));
        argument(in(week, 0, 7) && in(amount, 0, 40));
        state(week >= now().today);
        int before = now().places.get(place).inflow[scenario][week];
        change().places.get(place).inflow[scenario][week] = amount;
        tellChange();
        return before;
    }

    public int gauge(int place, int amount) {
        index(isPlace(place));
        argument(in(amount, 0, 40));
        state(now().today < 8);
        int before = now().places.get(place).inflow[0][now().today];
        St s = change();
        for (int i = 0; i < 3; i++) {
            s.places.get(place).inflow[i][s.today] = amount;
        }
        tellChange();
        return before;
    }

    public int measure(int place, int storage) {
        index(isPlace(place));
        argument(in(storage, 0, now().places.get(place).cap));
        state(now().today < 8);
        int before = now().places.get(place).storage;
        change().places.get(place).storage = storage;
        tellChange();
        return before;
    }

    public int passWeek() {
        state(now().today < 8);
        St old = now();
        Way way = way(old);
        int w = old.today;
        St s = change();
        for (int r = 0; r < s.rights.size(); r++) {
            Rt x = s.rights.get(r);
            x.askedPast[w] = asked(old, 0, r, w);
            x.gotPast[w] = plan(old, 0)[r][w];
            x.balance -= x.price * x.gotPast[w];
        }
        for (int i = 0; i < s.reaches.size(); i++) {
            s.reaches.get(i).sentPast[w] = way.sent[i][w];
        }
        for (int p = 0; p < s.places.size(); p++) {
            P x = s.places.get(p);
            x.storagePast[w] = x.storage;
            x.ranPast[w] = way.ran[p][w];
            x.storage = way.stored[p][w];
        }
        s.today++;
        tellChange();
        return s.today;
    }

    public int undo() {
        if (br.undo.isEmpty()) {
            return NONE;
        }
        St before = br.now;
        br.redo.add(before);
        br.now = br.undo.remove(br.undo.size() - 1);
        tell(before);
        return br.undo.size();
    }

    public int redo() {
        if (br.redo.isEmpty()) {
            return NONE;
        }
        St before = br.now;
        br.undo.add(before);
        br.now = br.redo.remove(br.redo.size() - 1);
        tell(before);
        return br.redo.size();
    }

    public int createBranch() {
        state(branches.size() < 3);
        Br b = new Br();
        b.now = br.now.copy();
        branches.add(b);
        return branches.size() - 1;
    }

    public int switchBranch(int branch) {
        index(in(branch, 0, branches.size() - 1));
        int before = branches.indexOf(br);
        br = branches.get(branch);
        return before;
    }

    public int difference(int branch) {
        index(in(branch, 0, branches.size() - 1));
        St other = branches.get(branch).now;
        int count = 0;
        for (int r = 0; r < 10; r++) {
            for (int w = 0; w < 8; w++) {
                int a = r < now().rights.size() ? plan(now(), 0)[r][w] : 0;
                int b = r < other.rights.size() ? plan(other, 0)[r][w] : 0;
                count += a != b ? 1 : 0;
            }
        }
        return count;
    }

    public int today() {
        return now().today;
    }

    public int placeCount() {
        return now().places.size();
    }

    public int reachCount() {
        return now().reaches.size();
    }

    public int rightCount() {
        return now().rights.size();
    }

    public int capacityAt(int reach, int week) {
        index(isReach(reach));
        argument(in(week, 0, 7));
        return now().reaches.get(reach).cap[week];
    }

    public int inflowAt(int scenario, int place, int week) {
        index(in(scenario, 0, 2) && isPlace(place));
        argument(in(week, 0, 7));
        return now().places.get(place).inflow[scenario][week];
    }

    public int askedAt(int scenario, int right, int week) {
        index(in(scenario, 0, 2) && isRight(right));
        argument(in(week, 0, 7));
        return asked(now(), scenario, right, week);
    }

    public int decreeValue(int scenario, int right, int week) {
        index(in(scenario, 0, 2) && isRight(right));
        argument(in(week, 0, 7));
        List<String> decree = now().rights.get(right).decree;
        if (decree.isEmpty()) {
            throw new NoSuchElementException();
        }
        return new Eval(now(), decree, scenario, week).expression();
    }

    public int rankOf(int right) {
        index(isRight(right));
        return bySeniority(now()).indexOf(right);
    }

    public int lessorOf(int right) {
        index(isRight(right));
        return now().rights.get(right).lessor;
    }

    public int balance(int right) {
        index(isRight(right));
        return now().rights.get(right).balance;
    }

    public int amountAt(int scenario, int right, int week) {
        index(in(scenario, 0, 2) && isRight(right));
        argument(in(week, 0, 7));
        return plan(now(), scenario)[right][week];
    }

    public int total(int right) {
        index(isRight(right));
        return java.util.Arrays.stream(plan(now(), 0)[right]).sum();
    }

    public int shortage(int right, int week) {
        index(isRight(right));
        argument(in(week, 0, 7));
        return asked(now(), 0, right, week) - plan(now(), 0)[right][week];
    }

    public int sent(int reach, int week) {
        index(isReach(reach));
        argument(in(week, 0, 7));
        return week < now().today ? now().reaches.get(reach).sentPast[week] : way(now()).sent[reach][week];
    }

    public int storageAt(int place, int week) {
        index(isPlace(place));
        argument(in(week, 0, 8));
        P p = now().places.get(place);
        return week < now().today ? p.storagePast[week]
            : week == now().today ? p.storage : way(now()).stored[place][week - 1];
    }

    public int runOff(int place, int week) {
        index(isPlace(place));
        argument(in(week, 0, 7));
        return week < now().today ? now().places.get(place).ranPast[week] : way(now()).ran[place][week];
    }

    public int changedAmounts() {
        return changed;
    }

    private boolean[][] neededWitness(int right, int week) {
        if (week < now().today || shortage(right, week) == 0) {
            throw new NoSuchElementException();
        }
        return witness(now(), right, week);
    }

    public int witnessSize(int right, int week) {
        index(isRight(right));
        argument(in(week, 0, 7));
        int size = 0;
        for (boolean[] row : neededWitness(right, week)) {
            for (boolean one : row) {
                size += one ? 1 : 0;
            }
        }
        return size;
    }

    public int markWitness(int right, int week) {
        index(isRight(right));
        argument(in(week, 0, 7));
        marks = neededWitness(right, week);
        return waterInto(now(), marks);
    }

    public boolean mark(int place, int week, boolean on) {
        index(isPlace(place));
        argument(in(week, 0, 7));
        boolean before = marks[place][week];
        marks[place][week] = on;
        return before;
    }

    public int clearMarks() {
        int count = 0;
        for (boolean[] row : marks) {
            for (boolean one : row) {
                count += one ? 1 : 0;
            }
        }
        marks = new boolean[6][8];
        return count;
    }

    public boolean isMarked(int place, int week) {
        index(isPlace(place));
        argument(in(week, 0, 7));
        return marks[place][week];
    }

    public int waterIntoMarks() {
        return waterInto(now(), marks);
    }

    public int takenInMarks(int right, int week) {
        index(isRight(right));
        argument(in(week, 0, 7));
        state(week >= now().today);
        return takenIn(now(), marks, right, week);
    }

    public int helpedRight(int reach, int week) {
        index(isReach(reach));
        argument(in(week, 0, 7));
        state(week >= now().today);
        St s = now().copy();
        s.reaches.get(reach).cap[week]++;
        for (int r : bySeniority(now())) {
            for (int w = now().today; w < 8; w++) {
                if (plan(s, 0)[r][w] != plan(now(), 0)[r][w]) {
                    return r;
                }
            }
        }
        return NONE;
    }

    public int closureCost(int reach, int week) {
        index(isReach(reach));
        argument(in(week, 0, 7));
        state(week >= now().today);
        St s = now().copy();
        s.reaches.get(reach).cap[week] = 0;
        int cost = 0;
        for (int r = 0; r < now().rights.size(); r++) {
            cost += future(now(), r) - future(s, r);
        }
        return cost;
    }

    public int harm(int right, int other) {
        index(isRight(right) && isRight(other));
        argument(right != other);
        St s = now().copy();
        java.util.Arrays.fill(s.rights.get(other).ask, 0);
        s.rights.get(other).decree.clear();
        return future(s, right) - future(now(), right);
    }

    public int injuredRight(int right, int place, int amount, int first, int last) {
        index(isRight(right) && isPlace(place));
        argument(in(amount, 1, 20) && span(first, last));
        state(mayLease(right, amount, first, last));
        return injured(right, place, amount, first, last);
    }

    public int greatestLease(int right, int place, int first, int last) {
        index(isRight(right) && isPlace(place));
        argument(span(first, last));
        state(first >= now().today);
        int greatest = 0;
        for (int amount = 1; amount <= 20; amount++) {
            if (mayLease(right, amount, first, last) && injured(right, place, amount, first, last) == NONE) {
                greatest = amount;
            }
        }
        return greatest;
    }

    public double meanShortage() {
        int sum = 0;
        int count = 0;
        for (int r = 0; r < now().rights.size(); r++) {
            for (int w = now().today; w < 8; w++) {
                sum += shortage(r, w);
                count++;
            }
        }
        return count == 0 ? 0.0 : (double) sum / (double) count;
    }

    public float servedShare() {
        int given = 0;
        int all = 0;
        for (int r = 0; r < now().rights.size(); r++) {
            for (int w = 0; w < 8; w++) {
                given += plan(now(), 0)[r][w];
                all += asked(now(), 0, r, w);
            }
        }
        return all == 0 ? 0.0f : (float) given / (float) all;
    }

    public int errors() {
        return 0;
    }

    String written() {
        return written;
    }
}
