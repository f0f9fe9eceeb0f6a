import java.math.BigInteger;
import java.util.ArrayDeque;
import java.util.ArrayList;
import java.util.Arrays;
import java.util.Deque;
import java.util.HashMap;
import java.util.List;
import java.util.Map;
import java.util.NoSuchElementException;
import java.util.Random;

/**
 * Random runs of calls, each answered by CoinLoops and by a slow model of the document that is
 * written another way: a set of stacks for FAULTS, a tree for the LOOP, BigInteger fractions for
 * the equations, all sets of conditions for the CORNERS.
 */
public final class ModelTests {
    private static int wrong = 0;
    private static long calls = 0;
    private static final Map<String, Integer> seen = new HashMap<>();

    public static void main(String[] args) {
        int runs = args.length > 0 ? Integer.parseInt(args[0]) : 4000;
        long first = args.length > 1 ? Long.parseLong(args[1]) : 1;
        for (int i = 0; i < runs && wrong < 20; i++) {
            new Driver(first + i).drive();
        }
        if (args.length > 2) {
            System.out.println(seen);
        }
        System.out.println(calls + " calls, " + wrong + " answers are not as due");
        if (wrong != 0) {
            System.exit(1);
        }
    }

    // ---------------------------------------------------------------- parts of a TEXT

    record Part(char kind, String text, int start) {
    }

    /** Kinds: w word, n number, s sign or another byte, e end. */
    static List<Part> split(String text) {
        List<Part> parts = new ArrayList<>();
        java.util.regex.Matcher m = java.util.regex.Pattern.compile("[a-z]+|[0-9]+|[^a-z0-9 ]", java.util.regex.Pattern.DOTALL).matcher(text);
        while (m.find()) {
            char c = m.group().charAt(0);
            parts.add(new Part(c >= 'a' && c <= 'z' ? 'w' : c >= '0' && c <= '9' ? 'n' : 's', m.group(), m.start()));
        }
        parts.add(new Part('e', "", text.length()));
        return parts;
    }

    // ---------------------------------------------------------------- FAULTS: all stacks that are still possible

    static final class Config {
        final Deque<String> stack = new ArrayDeque<>();
        final Deque<int[]> coins = new ArrayDeque<>();
        int nx, statements, picks, way, depth, pieces;

        Config copy() {
            Config c = new Config();
            c.stack.addAll(stack);
            for (int[] one : coins) {
                c.coins.add(one.clone());
            }
            c.nx = nx; c.statements = statements; c.picks = picks; c.way = way; c.depth = depth; c.pieces = pieces;
            return c;
        }

        Config push(String... symbols) {
            for (int i = symbols.length - 1; i >= 0; i--) {
                stack.push(symbols[i]);
            }
            return this;
        }
    }

    static int fault(String text, boolean asGuess) {
        List<Config> live = new ArrayList<>();
        live.add(new Config().push(asGuess ? "PIECE" : "LOOP", "END"));
        for (Part part : split(text)) {
            List<Config> next = new ArrayList<>();
            for (Config c : live) {
                step(c, part, next);
            }
            if (next.isEmpty()) {
                return part.start();
            }
            live = next;
        }
        return -1;
    }

    static boolean isNumber(Part p, int low, int high) {
        return p.kind() == 'n' && p.text().length() <= 2 && Integer.parseInt(p.text()) >= low && Integer.parseInt(p.text()) <= high;
    }

    static void step(Config c, Part p, List<Config> out) {
        while (true) {
            String top = c.stack.pop();
            String t = p.text();
            switch (top) {
                case "END": if (p.kind() == 'e') { out.add(c); } return;
                case "LOOP": c.push("'x", "NX", "';", "YPART"); continue;
                case "NX": if (isNumber(p, 0, 9)) { c.nx = Integer.parseInt(t); out.add(c); } return;
                case "NY": if (isNumber(p, 0, 9) && (c.nx + 1) * (Integer.parseInt(t) + 1) <= 10) { out.add(c); } return;
                case "YPART":
                    if (t.equals("y")) { c.push("'y", "NY", "';"); step(pushUnder(c, 3, "'while", "COND", "BLOCK"), p, out); return; }
                    c.push("'while", "COND", "BLOCK"); continue;
                case "COND": c.push("SUM", "REL", "SUM", "CMORE"); continue;
                case "CMORE": if (t.equals("and") || t.equals("or")) { c.push("SUM", "REL", "SUM", "CMORE"); out.add(c); return; } continue;
                case "REL": if (t.equals("<") || t.equals("=") || t.equals(">")) { out.add(c); } return;
                case "SUM": c.push("PART", "SMORE"); continue;
                case "SMORE": if (t.equals("+") || t.equals("-")) { c.push("PART", "SMORE"); out.add(c); return; } continue;
                case "PART":
                    if (isNumber(p, 0, 99)) { c.push("VAR?"); out.add(c); } else if (t.equals("x") || t.equals("y")) { out.add(c); }
                    return;
                case "VAR?": if (t.equals("x") || t.equals("y")) { out.add(c); return; } continue;
                case "BLOCK":
                    if (t.equals("{") && c.depth < 6) { c.depth++; c.push("BODY", "CLOSE"); out.add(c); }
                    return;
                case "CLOSE": if (t.equals("}")) { c.depth--; out.add(c); } return;
                case "BODY": if (t.equals("}")) { continue; } c.push("STATEMENT", "MORE"); continue;
                case "MORE": if (t.equals(";")) { c.push("STATEMENT", "MORE"); out.add(c); return; } continue;
                case "STATEMENT": statement(c, t, out); return;
                case "PAY": if (isNumber(p, 0, 20)) { out.add(c); } return;
                case "SAVE": c.coins.push(new int[] {c.way, 0}); continue;
                case "SWAP": c.coins.peek()[1] = c.way; c.way = c.coins.peek()[0]; continue;
                case "JOIN": c.way = Math.max(c.way, c.coins.pop()[1]); continue;
                case "PIECE":
                    if (++c.pieces > 8) { return; }
                    Config last = c.copy().push("SUM", "BY");
                    step(last, p, out);
                    c.push("COND", "'?", "SUM", "BY", "';", "PIECE"); continue;
                case "BY": if (t.equals("by")) { c.push("BYN"); out.add(c); return; } continue;
                case "BYN": if (isNumber(p, 1, 12)) { out.add(c); } return;
                default:
                    if (top.charAt(0) != '\'') { throw new IllegalStateException(top); }
                    if (t.equals(top.substring(1))) { out.add(c); }
                    return;
            }
        }
    }

    static Config pushUnder(Config c, int above, String... symbols) {
        List<String> kept = new ArrayList<>();
        for (int i = 0; i < above; i++) {
            kept.add(c.stack.pop());
        }
        c.push(symbols);
        return c.push(kept.toArray(new String[0]));
    }

    static void statement(Config c, String t, List<Config> out) {
        if (++c.statements > 24) {
            return;
        }
        switch (t) {
            case "x": case "y": c.push("'=", "SUM"); break;
            case "pay": c.push("PAY"); break;
            case "out": break;
            case "coin": if (++c.way > 2) { return; } c.push("SAVE", "BLOCK", "SWAP", "BLOCK", "JOIN"); break;
            case "pick": if (++c.picks > 3) { return; } c.push("SAVE", "BLOCK", "SWAP", "BLOCK", "JOIN"); break;
            case "if": c.push("COND", "SAVE", "BLOCK", "SWAP", "BLOCK", "JOIN"); break;
            default: return;
        }
        out.add(c);
    }

    // ---------------------------------------------------------------- the tree of a TEXT without FAULT

    static final class Tree {
        final List<Part> parts;
        int at = 0;
        int pays = 0, picks = 0, coins = 0, statements = 0;
        final List<Integer> prices = new ArrayList<>();

        Tree(String text) {
            parts = split(text);
        }

        String now() {
            return parts.get(at).text();
        }

        boolean take(String t) {
            if (now().equals(t) && parts.get(at).kind() != 'e') {
                at++;
                return true;
            }
            return false;
        }

        /** A sum: rows of {times, 0 number, 1 x, 2 y}. */
        List<int[]> sum() {
            List<int[]> sum = new ArrayList<>();
            int sign = 1;
            do {
                if (at > 0 && sum.size() > 0) {
                    sign = parts.get(at - 1).text().equals("+") ? 1 : -1;
                }
                int times = 1;
                boolean number = parts.get(at).kind() == 'n';
                if (number) {
                    times = Integer.parseInt(now());
                    at++;
                }
                if (take("x")) {
                    sum.add(new int[] {sign * times, 1});
                } else if (take("y")) {
                    sum.add(new int[] {sign * times, 2});
                } else {
                    sum.add(new int[] {sign * times, 0});
                }
            } while (take("+") || take("-"));
            return sum;
        }

        /** An or of ands of {sum, relation, sum}. */
        List<List<Object[]>> cond() {
            List<List<Object[]>> or = new ArrayList<>();
            do {
                List<Object[]> and = new ArrayList<>();
                do {
                    List<int[]> left = sum();
                    String relation = now();
                    at++;
                    and.add(new Object[] {left, relation, sum()});
                } while (take("and"));
                or.add(and);
            } while (take("or"));
            return or;
        }

        List<Node> body() {
            List<Node> body = new ArrayList<>();
            take("{");
            while (!take("}")) {
                take(";");
                body.add(node());
            }
            return body;
        }

        Node node() {
            Node n = new Node();
            statements++;
            n.kind = now();
            at++;
            switch (n.kind) {
                case "x": case "y": take("="); n.sum = sum(); break;
                case "pay": n.which = pays++; prices.add(Integer.parseInt(now())); at++; break;
                case "coin": coins++; n.first = body(); n.second = body(); break;
                case "pick": n.which = picks++; n.first = body(); n.second = body(); break;
                case "if": n.cond = cond(); n.first = body(); n.second = body(); break;
                default: break;
            }
            return n;
        }
    }

    static final class Node {
        String kind;
        int which;
        List<int[]> sum;
        List<List<Object[]>> cond;
        List<Node> first, second;
    }

    static int eval(List<int[]> sum, int x, int y) {
        int v = 0;
        for (int[] part : sum) {
            v += part[0] * (part[1] == 0 ? 1 : part[1] == 1 ? x : y);
        }
        return v;
    }

    @SuppressWarnings("unchecked")
    static boolean holds(List<List<Object[]>> cond, int x, int y) {
        return cond.stream().anyMatch(and -> and.stream().allMatch(one -> {
            int l = eval((List<int[]>) one[0], x, y);
            int r = eval((List<int[]>) one[2], x, y);
            return one[1].equals("<") ? l < r : one[1].equals("=") ? l == r : l > r;
        }));
    }

    // ---------------------------------------------------------------- fractions

    record Q(BigInteger up, BigInteger low) {
        static Q of(BigInteger up, BigInteger low) {
            BigInteger g = up.gcd(low);
            if (low.signum() < 0) {
                g = g.negate();
            }
            return new Q(up.divide(g), low.divide(g));
        }
        static Q of(long up, long low) { return of(BigInteger.valueOf(up), BigInteger.valueOf(low)); }
        Q plus(Q o) { return of(up.multiply(o.low).add(o.up.multiply(low)), low.multiply(o.low)); }
        Q minus(Q o) { return of(up.multiply(o.low).subtract(o.up.multiply(low)), low.multiply(o.low)); }
        Q times(Q o) { return of(up.multiply(o.up), low.multiply(o.low)); }
        Q by(Q o) { return of(up.multiply(o.low), low.multiply(o.up)); }
        int sign() { return up.signum(); }
        int against(Q o) { return minus(o).sign(); }
        long part(int part) { return part == 0 ? up.longValueExact() : low.longValueExact(); }
    }

    static final Q ZERO = Q.of(0, 1), ONE = Q.of(1, 1);

    // ---------------------------------------------------------------- the model

    record Choice(int picks, int paid, int outs, List<Integer> leads) {
    }

    record Way(int weight, int x, int y, int paid, boolean out) {
    }

    static final class Model {
        String tape = "";
        Tree tree;
        int nx, ny;
        List<List<Object[]>> cond;
        List<Node> body;
        int[] prices;
        List<Object[]> pieces;
        final int[] bound = {-1, -1, -1};
        final int[] refused = new int[3];
        List<List<Choice>> choices;
        List<int[]> planList;
        List<Q[]> planPaid, planEnds;
        List<Q[]> corners;

        int feed(int... five) {
            StringBuilder b = new StringBuilder(tape);
            for (int i : five) {
                for (int s = 24; s >= 0; s -= 8) {
                    if (((i >> s) & 255) != 0) {
                        b.append((char) ((i >> s) & 255));
                    }
                }
            }
            if (b.length() > 500) {
                return -1;
            }
            tape = b.toString();
            return tape.length();
        }

        boolean end(int n) {
            if (n < 0 || n > tape.length()) {
                return false;
            }
            tape = tape.substring(0, n);
            return true;
        }

        int faultOf(int what) {
            return what == 0 ? fault(tape, false) : what == 1 ? fault(tape, true) : -2;
        }

        int loop() {
            if (fault(tape, false) != -1) {
                return -1;
            }
            tree = new Tree(tape);
            tree.take("x");
            nx = Integer.parseInt(tree.now());
            tree.at += 2;
            ny = 0;
            if (tree.take("y")) {
                ny = Integer.parseInt(tree.now());
                tree.at += 2;
            }
            tree.take("while");
            cond = tree.cond();
            body = tree.body();
            prices = tree.prices.stream().mapToInt(i -> i).toArray();
            tape = "";
            pieces = null;
            Arrays.fill(bound, -1);
            renew();
            return states();
        }

        int guess() {
            if (fault(tape, true) != -1) {
                return -1;
            }
            Tree t = new Tree(tape);
            pieces = new ArrayList<>();
            boolean last;
            do {
                int from = t.at;
                last = true;
                for (int i = from; i < t.parts.size() && !t.parts.get(i).text().equals(";"); i++) {
                    last &= !t.parts.get(i).text().equals("?");
                }
                List<List<Object[]>> c = last ? null : t.cond();
                t.take("?");
                List<int[]> sum = t.sum();
                int by = 1;
                if (t.take("by")) {
                    by = Integer.parseInt(t.now());
                    t.at++;
                }
                pieces.add(new Object[] {c, sum, by});
                t.take(";");
            } while (!last);
            tape = "";
            return pieces.size();
        }

        int states() { return (nx + 1) * (ny + 1); }
        int xOf(int s) { return s % (nx + 1); }
        int yOf(int s) { return s / (nx + 1); }
        boolean in(int s) { return holds(cond, xOf(s), yOf(s)); }

        List<Way> ways(List<Node> nodes, int i, Way w, int picks) {
            if (w.out() || i == nodes.size()) {
                return List.of(w);
            }
            Node n = nodes.get(i);
            List<Way> mid = new ArrayList<>();
            switch (n.kind) {
                case "x": mid.add(new Way(w.weight(), Math.max(0, Math.min(nx, eval(n.sum, w.x(), w.y()))), w.y(), w.paid(), false)); break;
                case "y": mid.add(new Way(w.weight(), w.x(), Math.max(0, Math.min(ny, eval(n.sum, w.x(), w.y()))), w.paid(), false)); break;
                case "pay": mid.add(new Way(w.weight(), w.x(), w.y(), w.paid() + prices[n.which], false)); break;
                case "out": mid.add(new Way(w.weight(), w.x(), w.y(), w.paid(), true)); break;
                case "coin":
                    Way half = new Way(w.weight() / 2, w.x(), w.y(), w.paid(), false);
                    mid.addAll(ways(n.first, 0, half, picks));
                    mid.addAll(ways(n.second, 0, half, picks));
                    break;
                case "pick": mid.addAll(ways((picks >> n.which & 1) == 0 ? n.first : n.second, 0, w, picks)); break;
                default: mid.addAll(ways(holds(n.cond, w.x(), w.y()) ? n.first : n.second, 0, w, picks)); break;
            }
            List<Way> done = new ArrayList<>();
            for (Way m : mid) {
                done.addAll(ways(nodes, i + 1, m, picks));
            }
            return done;
        }

        void renew() {
            choices = new ArrayList<>();
            planList = null;
            corners = null;
            for (int s = 0; s < states(); s++) {
                List<Choice> own = new ArrayList<>();
                for (int p = 0; p < 1 << tree.picks && in(s); p++) {
                    boolean free = true;
                    for (int k = 0; k < tree.picks; k++) {
                        free &= bound[k] == -1 || bound[k] == (p >> k & 1);
                    }
                    int paid = 0, outs = 0;
                    Integer[] leads = new Integer[states()];
                    Arrays.fill(leads, 0);
                    for (Way w : ways(body, 0, new Way(4, xOf(s), yOf(s), 0, false), p)) {
                        paid += w.weight() * w.paid();
                        if (w.out()) {
                            outs += w.weight();
                        } else {
                            leads[w.x() + w.y() * (nx + 1)] += w.weight();
                        }
                    }
                    Choice c = new Choice(p, paid, outs, List.of(leads));
                    if (free && own.stream().noneMatch(o -> o.paid() == c.paid() && o.outs() == c.outs() && o.leads().equals(c.leads()))) {
                        own.add(c);
                    }
                }
                choices.add(own);
            }
        }

        int plans() {
            long product = 1;
            for (int s = 0; s < states(); s++) {
                product *= in(s) ? choices.get(s).size() : 1;
            }
            return product > 64 ? -2 : (int) product;
        }

        void solvePlans() {
            if (planList != null) {
                return;
            }
            planList = new ArrayList<>();
            planPaid = new ArrayList<>();
            planEnds = new ArrayList<>();
            listPlans(new int[states()], 0);
            for (int[] plan : planList) {
                solve(plan);
            }
        }

        void listPlans(int[] plan, int s) {
            if (s == states()) {
                planList.add(plan.clone());
                return;
            }
            for (int c = 0; c < Math.max(1, choices.get(s).size()); c++) {
                plan[s] = c;
                listPlans(plan, s + 1);
            }
        }

        void solve(int[] plan) {
            int n = states();
            boolean[][] reach = new boolean[n][n + 1];
            for (int s = 0; s < n; s++) {
                reach[s][s] = true;
                if (!in(s)) {
                    reach[s][n] = true;
                    continue;
                }
                Choice c = choices.get(s).get(plan[s]);
                for (int t = 0; t < n; t++) {
                    reach[s][t] |= c.leads().get(t) > 0;
                }
                reach[s][n] |= c.outs() > 0;
            }
            for (int k = 0; k < n; k++) {
                for (int i = 0; i < n; i++) {
                    for (int j = 0; j <= n; j++) {
                        reach[i][j] |= reach[i][k] && reach[k][j];
                    }
                }
            }
            boolean[] closed = new boolean[n];
            for (int s = 0; s < n; s++) {
                closed[s] = !reach[s][n];
                for (int t = 0; t < n; t++) {
                    closed[s] &= !reach[s][t] || reach[t][s];
                }
            }
            Q[] paid = linear(plan, closed, true);
            Q[] ends = linear(plan, closed, false);
            for (int s = 0; s < n; s++) {
                for (int t = 0; t < n; t++) {
                    if (reach[s][t] && closed[t] && choices.get(t).get(plan[t]).paid() > 0) {
                        paid[s] = null;
                    }
                }
            }
            checkByDoubling(plan, paid, ends);
            planPaid.add(paid);
            planEnds.add(ends);
        }

        Q[] linear(int[] plan, boolean[] closed, boolean ofPaid) {
            int n = states();
            Q[][] m = new Q[n][n + 1];
            for (int s = 0; s < n; s++) {
                Arrays.fill(m[s], ZERO);
                m[s][s] = ONE;
                if (!in(s)) {
                    m[s][n] = ofPaid ? ZERO : ONE;
                } else if (!closed[s]) {
                    Choice c = choices.get(s).get(plan[s]);
                    m[s][n] = Q.of(ofPaid ? c.paid() : c.outs(), 4);
                    for (int t = 0; t < n; t++) {
                        m[s][t] = m[s][t].minus(Q.of(c.leads().get(t), 4));
                    }
                }
            }
            return gauss(m, n);
        }

        /** Another way to the same numbers: sums of ever twice as many rounds, in doubles. */
        void checkByDoubling(int[] plan, Q[] paid, Q[] ends) {
            int n = states();
            double[][] p = new double[n][n];
            double[] sum = new double[n], out = new double[n];
            for (int s = 0; s < n; s++) {
                if (in(s)) {
                    Choice c = choices.get(s).get(plan[s]);
                    sum[s] = c.paid() / 4.0;
                    out[s] = c.outs() / 4.0;
                    for (int t = 0; t < n; t++) {
                        if (in(t)) {
                            p[s][t] = c.leads().get(t) / 4.0;
                        } else {
                            out[s] += c.leads().get(t) / 4.0;
                        }
                    }
                }
            }
            for (int i = 0; i < 45; i++) {
                double[] s2 = sum.clone(), o2 = out.clone();
                double[][] p2 = new double[n][n];
                for (int a = 0; a < n; a++) {
                    for (int b = 0; b < n; b++) {
                        s2[a] += p[a][b] * sum[b];
                        o2[a] += p[a][b] * out[b];
                        for (int c = 0; c < n; c++) {
                            p2[a][b] += p[a][c] * p[c][b];
                        }
                    }
                }
                sum = s2;
                out = o2;
                p = p2;
            }
            for (int s = 0; s < n; s++) {
                boolean endless = sum[s] > 1e10;
                double e = ends[s].up().doubleValue() / ends[s].low().doubleValue();
                double v = paid[s] == null ? 0 : paid[s].up().doubleValue() / paid[s].low().doubleValue();
                boolean right = Math.abs(e - (in(s) ? out[s] : 1)) < 1e-5 && endless == (paid[s] == null)
                        && (endless || Math.abs(v - sum[s]) <= 1e-5 * (1 + v));
                if (!right) {
                    throw new IllegalStateException("the model is wrong: " + e + " " + out[s] + " " + v + " " + sum[s]);
                }
            }
        }

        static Q[] gauss(Q[][] m, int n) {
            for (int k = 0; k < n; k++) {
                int pivot = k;
                while (pivot < n && m[pivot][k].sign() == 0) {
                    pivot++;
                }
                if (pivot == n) {
                    return null;
                }
                Q[] swap = m[k];
                m[k] = m[pivot];
                m[pivot] = swap;
                for (int i = 0; i < n; i++) {
                    if (i != k && m[i][k].sign() != 0) {
                        Q f = m[i][k].by(m[k][k]);
                        for (int j = k; j <= n; j++) {
                            m[i][j] = m[i][j].minus(f.times(m[k][j]));
                        }
                    }
                }
            }
            Q[] x = new Q[n];
            for (int i = 0; i < n; i++) {
                x[i] = m[i][n].by(m[i][i]);
            }
            return x;
        }

        /** null is without end, and the most. */
        static int compare(Q a, Q b) {
            return a == null ? (b == null ? 0 : 1) : b == null ? -1 : a.against(b);
        }

        int firstPlan(List<Q[]> of, int s, boolean most) {
            int best = 0;
            for (int i = 1; i < of.size(); i++) {
                int c = compare(of.get(i)[s], of.get(best)[s]);
                if (most ? c > 0 : c < 0) {
                    best = i;
                }
            }
            return best;
        }

        Q extreme(List<Q[]> of, int s, boolean most) {
            return of.get(firstPlan(of, s, most))[s];
        }

        // ---- the face

        boolean refuse(boolean bad, int why) {
            if (bad) {
                refused[why]++;
            }
            return bad;
        }

        boolean noState(int s) { return s < 0 || s >= states(); }
        boolean noChoice(int s, int c) { return noState(s) || c < 0 || c >= choices.get(s).size(); }
        boolean noPart(int part) { return part != 0 && part != 1; }

        int rule(int what) {
            if (refuse(tree == null, 0) || refuse(what < 0 || what > 8, 1)) {
                return -2;
            }
            int in = 0;
            for (int s = 0; s < states(); s++) {
                in |= in(s) ? 1 << s : 0;
            }
            int bits = (bound[0] >= 0 ? 1 : 0) + (bound[1] >= 0 ? 2 : 0) + (bound[2] >= 0 ? 4 : 0);
            return new int[] {nx, ny, states(), in, tree.statements, tree.picks, plans(), pieces == null ? 0 : pieces.size(), bits}[what];
        }

        int choices(int s) {
            return refuse(tree == null, 0) || refuse(noState(s), 1) ? -1 : choices.get(s).size();
        }

        int choice(int s, int c, int what) {
            if (refuse(tree == null, 0) || refuse(noChoice(s, c) || what < 0 || what > 2, 1)) {
                throw new NoSuchElementException();
            }
            Choice ch = choices.get(s).get(c);
            return what == 0 ? ch.picks() : what == 1 ? ch.paid() : ch.outs();
        }

        int leads(int s, int c, int to) {
            return refuse(tree == null, 0) || refuse(noChoice(s, c) || noState(to), 1) ? -1 : choices.get(s).get(c).leads().get(to);
        }

        boolean refusePlans(boolean bad) {
            if (refuse(tree == null, 0) || refuse(bad, 1) || refuse(plans() == -2, 2)) {
                return true;
            }
            solvePlans();
            return false;
        }

        long paid(int s, boolean most, int part) {
            if (refusePlans(tree != null && (noState(s) || noPart(part)))) {
                return -1;
            }
            Q q = extreme(planPaid, s, most);
            return q == null ? -2 : q.part(part);
        }

        long ends(int s, boolean most, int part) {
            return refusePlans(tree != null && (noState(s) || noPart(part))) ? -1 : extreme(planEnds, s, most).part(part);
        }

        int unsure() {
            if (!refusePlans(false)) {
                for (int s = 0; s < states(); s++) {
                    if (!extreme(planEnds, s, false).equals(ONE)) {
                        return s;
                    }
                }
            }
            return -1;
        }

        int plan(int s, boolean most, int of) {
            if (refusePlans(tree != null && (noState(s) || noState(of))) || !in(of)) {
                return -1;
            }
            return planList.get(firstPlan(planPaid, s, most))[of];
        }

        Q inRounds(int s, int n, boolean most, int what, Map<Integer, Q> known) {
            if (!in(s)) {
                return what == 0 ? ONE : ZERO;
            }
            if (n == 0) {
                return ZERO;
            }
            Q had = known.get(n * 100 + s);
            if (had != null) {
                return had;
            }
            Q best = null;
            for (Choice c : choices.get(s)) {
                Q v = Q.of(what == 0 ? c.outs() : c.paid(), 4);
                for (int t = 0; t < states(); t++) {
                    if (c.leads().get(t) > 0) {
                        v = v.plus(Q.of(c.leads().get(t), 4).times(inRounds(t, n - 1, most, what, known)));
                    }
                }
                best = best == null || (most ? v.against(best) > 0 : v.against(best) < 0) ? v : best;
            }
            known.put(n * 100 + s, best);
            return best;
        }

        long within(int s, int n, boolean most, int what) {
            if (refuse(tree == null, 0) || refuse(noState(s) || n < 0 || n > 20 || what < 0 || what > 1, 1)) {
                return -1;
            }
            Q q = inRounds(s, n, most, what, new HashMap<>()).times(Q.of(1L << (2 * n), 1));
            if (!q.low().equals(BigInteger.ONE)) {
                throw new IllegalStateException("not whole");
            }
            return q.part(0);
        }

        int half(int s) {
            if (refuse(tree == null, 0) || refuse(noState(s), 1)) {
                return -1;
            }
            Map<Integer, Q> known = new HashMap<>();
            for (int n = 0; n <= 20; n++) {
                if (inRounds(s, n, false, 0, known).against(Q.of(1, 2)) >= 0) {
                    return n;
                }
            }
            return -1;
        }

        @SuppressWarnings("unchecked")
        Q guessOf(int s) {
            if (!in(s)) {
                return ZERO;
            }
            for (Object[] piece : pieces) {
                if (piece[0] == null || holds((List<List<Object[]>>) piece[0], xOf(s), yOf(s))) {
                    return Q.of(eval((List<int[]>) piece[1], xOf(s), yOf(s)), (Integer) piece[2]);
                }
            }
            throw new IllegalStateException();
        }

        Q aheadOf(int s, Choice c, boolean paid) {
            Q v = paid ? Q.of(c.paid(), 4) : ZERO;
            for (int t = 0; t < states(); t++) {
                v = v.plus(guessOf(t).times(Q.of(c.leads().get(t), 4)));
            }
            return v;
        }

        long guessed(int s, int part) {
            if (refuse(tree == null || pieces == null, 0) || refuse(noState(s) || noPart(part), 1)) {
                return -1000001;
            }
            return guessOf(s).part(part);
        }

        long ahead(int s, int c, int part) {
            if (refuse(tree == null || pieces == null, 0) || refuse(noChoice(s, c) || noPart(part), 1)) {
                return -1000001;
            }
            return aheadOf(s, choices.get(s).get(c), true).part(part);
        }

        int refutes(int rule) {
            if (refuse(tree == null || pieces == null, 0) || refuse(rule < 0 || rule > 4, 1)) {
                return -2;
            }
            for (int s = 0; s < states(); s++) {
                if (!in(s)) {
                    continue;
                }
                Q g = guessOf(s);
                boolean some = false, each = true;
                for (Choice c : choices.get(s)) {
                    boolean bad;
                    if (rule < 2) {
                        bad = g.against(aheadOf(s, c, true)) < 0;
                    } else if (rule == 2) {
                        bad = g.minus(aheadOf(s, c, false)).against(ONE) < 0;
                    } else if (rule == 3) {
                        bad = g.against(aheadOf(s, c, true)) > 0;
                    } else {
                        bad = c.outs() == 0;
                        for (int t = 0; t < states(); t++) {
                            if (c.leads().get(t) > 0 && (!in(t) || g.minus(guessOf(t)).against(ONE) >= 0)) {
                                bad = false;
                            }
                        }
                    }
                    some |= bad;
                    each &= bad;
                }
                if (rule != 3 && g.sign() < 0 || (rule == 1 ? each : some)) {
                    return s;
                }
            }
            return -1;
        }

        /** All sets of so many conditions, by determinants. */
        void findCorners() {
            if (corners != null) {
                return;
            }
            corners = new ArrayList<>();
            List<long[]> rows = new ArrayList<>();
            for (int s = 0; s < states(); s++) {
                if (in(s)) {
                    rows.add(new long[] {xOf(s), yOf(s), 1, 0});
                    for (Choice c : choices.get(s)) {
                        long[] row = {4 * xOf(s), 4 * yOf(s), 4, c.paid()};
                        for (int t = 0; t < states(); t++) {
                            if (in(t)) {
                                row[0] -= c.leads().get(t) * xOf(t);
                                row[1] -= c.leads().get(t) * yOf(t);
                                row[2] -= c.leads().get(t);
                            }
                        }
                        rows.add(row);
                    }
                }
            }
            List<long[]> fixed = new ArrayList<>();
            if (nx == 0) {
                fixed.add(new long[] {1, 0, 0, 0});
            }
            if (ny == 0) {
                fixed.add(new long[] {0, 1, 0, 0});
            }
            chooseRows(rows, 0, new ArrayList<>(fixed));
        }

        void chooseRows(List<long[]> rows, int from, List<long[]> chosen) {
            if (chosen.size() == 3) {
                tryCorner(rows, chosen);
                return;
            }
            for (int i = from; i < rows.size(); i++) {
                chosen.add(rows.get(i));
                chooseRows(rows, i + 1, chosen);
                chosen.remove(chosen.size() - 1);
            }
        }

        static long det(List<long[]> r, int a, int b, int c) {
            long[] p = r.get(0), q = r.get(1), s = r.get(2);
            return p[a] * (q[b] * s[c] - q[c] * s[b]) - p[b] * (q[a] * s[c] - q[c] * s[a]) + p[c] * (q[a] * s[b] - q[b] * s[a]);
        }

        void tryCorner(List<long[]> rows, List<long[]> chosen) {
            long d = det(chosen, 0, 1, 2);
            if (d == 0) {
                return;
            }
            long sign = d < 0 ? -1 : 1;
            long a = sign * det(chosen, 3, 1, 2), b = sign * det(chosen, 0, 3, 2), c = sign * det(chosen, 0, 1, 3);
            d *= sign;
            for (long[] row : rows) {
                if (row[0] * a + row[1] * b + row[2] * c < row[3] * d) {
                    return;
                }
            }
            corners.add(new Q[] {Q.of(a, d), Q.of(b, d), Q.of(c, d)});
        }

        Q tells(Q[] k, int s) {
            return k[0].times(Q.of(xOf(s), 1)).plus(k[1].times(Q.of(yOf(s), 1))).plus(k[2]);
        }

        long best(int s, int what) {
            if (refuse(tree == null, 0) || refuse(noState(s) || !in(s) || what < 0 || what > 7, 1)) {
                return -1000001;
            }
            findCorners();
            Q[] best = null;
            for (Q[] k : corners) {
                int o = best == null ? -1 : tells(k, s).against(tells(best, s));
                o = o == 0 ? k[0].against(best[0]) : o;
                o = o == 0 ? k[1].against(best[1]) : o;
                best = o < 0 ? k : best;
            }
            if (best == null) {
                return -1000001;
            }
            return (what < 2 ? tells(best, s) : best[what / 2 - 1]).part(what % 2);
        }

        // of a run
        int seed, coins;

        Way draw(List<Node> nodes, Way w, int picks) {
            for (Node n : nodes) {
                if (w.out()) {
                    return w;
                }
                if (n.kind.equals("coin")) {
                    seed = seed * 1103515245 + 12345;
                    coins++;
                    w = draw((seed & 65536) == 0 ? n.first : n.second, w, picks);
                } else if (n.kind.equals("pick")) {
                    w = draw((picks & 1 << n.which) == 0 ? n.first : n.second, w, picks);
                } else if (n.kind.equals("if")) {
                    w = draw(holds(n.cond, w.x(), w.y()) ? n.first : n.second, w, picks);
                } else {
                    w = ways(List.of(n), 0, w, picks).get(0);
                }
            }
            return w;
        }

        int run(int s, int picks, int seed, int rounds, int what) {
            if (refuse(tree == null, 0) || refuse(noState(s) || picks < 0 || picks > 7 || rounds < 0 || rounds > 200 || what < 0 || what > 4, 1)) {
                return -1;
            }
            this.seed = seed;
            coins = 0;
            Way w = new Way(4, xOf(s), yOf(s), 0, false);
            int gone = 0;
            while (gone < rounds && !w.out() && in(w.x() + w.y() * (nx + 1))) {
                w = draw(body, w, picks);
                gone++;
            }
            int at = w.x() + w.y() * (nx + 1);
            return new int[] {w.out() || !in(at) ? 1 : 0, gone, w.paid(), w.out() ? -1 : at, coins}[what];
        }

        int bind(int pick, int to) {
            if (refuse(tree == null, 0) || refuse(pick < 0 || pick >= tree.picks || to < -1 || to > 1, 1)) {
                return -1;
            }
            bound[pick] = to;
            renew();
            return plans();
        }

        int price(int k, int n) {
            if (refuse(tree == null, 0) || refuse(k < 0 || k >= tree.pays || n < 0 || n > 20, 1)) {
                return -1;
            }
            int was = prices[k];
            prices[k] = n;
            renew();
            return was;
        }

        int most(int what) {
            if (refuse(tree == null, 0) || refuse(what < 0 || what > 8, 1)) {
                return -1;
            }
            if (what >= 2 && what <= 5) {
                if (refuse(plans() == -2, 2)) {
                    return -1;
                }
                solvePlans();
            }
            int in = 0, found = -1, sure = 0, some = 0;
            for (int s = 0; s < states(); s++) {
                if (in(s)) {
                    in++;
                    boolean better = found == -1;
                    if (!better && what == 1) {
                        better = choices.get(s).size() > choices.get(found).size();
                    }
                    if (!better && what == 2) {
                        better = compare(extreme(planPaid, s, true), extreme(planPaid, found, true)) > 0;
                    }
                    if (!better && what == 3) {
                        better = extreme(planEnds, s, false).against(extreme(planEnds, found, false)) < 0;
                    }
                    found = better ? s : found;
                }
                if (what == 4 || what == 5) {
                    sure += extreme(planEnds, s, false).equals(ONE) ? 1 : 0;
                    some += extreme(planEnds, s, true).equals(ONE) ? 1 : 0;
                }
            }
            if (what == 6) {
                Deque<Integer> todo = new ArrayDeque<>(List.of(0));
                java.util.TreeSet<Integer> got = new java.util.TreeSet<>(List.of(0));
                while (!todo.isEmpty()) {
                    for (Choice c : choices.get(todo.pop())) {
                        for (int t = 0; t < states(); t++) {
                            if (c.leads().get(t) > 0 && got.add(t)) {
                                todo.add(t);
                            }
                        }
                    }
                }
                return got.size();
            }
            return new int[] {in, found, found, found, sure, some, 0, tree.pays, tree.coins}[what];
        }

        int status(int what) {
            return what < 0 || what > 2 ? -1 : refused[what];
        }

        int count(int what) {
            return what == 0 ? tape.length() : -1;
        }
    }

    // ---------------------------------------------------------------- random TEXTS

    static final class Maker {
        final Random r;
        int statements, picks;
        boolean tight;
        /** Numbers fall alone: loops that end, so that straight guesses have corners. */
        boolean down;
        double wide;

        Maker(Random r) {
            this.r = r;
        }

        String gap() {
            return tight ? "" : r.nextInt(4) == 0 ? " ".repeat(1 + r.nextInt(2)) : "";
        }

        boolean odds(double p) {
            return r.nextDouble() < p;
        }

        String part() {
            switch (r.nextInt(6)) {
                case 0: case 1: return "" + r.nextInt(odds(0.1) ? 100 : 4);
                case 2: case 3: return "x";
                case 4: return "y";
                default: return r.nextInt(odds(0.1) ? 100 : 4) + gap() + (odds(0.5) ? "x" : "y");
            }
        }

        String sum() {
            StringBuilder b = new StringBuilder(part());
            while (odds(0.4)) {
                b.append(gap()).append(odds(0.5) ? "+" : "-").append(gap()).append(part());
            }
            return b.toString();
        }

        /** A sum that moves a number by little: most loops walk. */
        String move(String v) {
            if (!down && odds(0.3)) {
                return sum();
            }
            return v + gap() + (down || odds(0.6) ? "-" : "+") + gap() + (1 + r.nextInt(2));
        }

        String one() {
            return sum() + gap() + "<=>".charAt(r.nextInt(3)) + gap() + sum();
        }

        String cond() {
            StringBuilder b = new StringBuilder(one());
            while (odds(0.25)) {
                b.append(odds(0.5) ? " and " : " or ").append(one());
            }
            return b.toString();
        }

        String whileCond() {
            switch (r.nextInt(down ? 2 : 6)) {
                case 0: return "x" + gap() + ">" + gap() + "0";
                case 1: return "x + y > 0 - " + r.nextInt(2);
                case 2: return "0=0";
                case 3: return "x < " + r.nextInt(10);
                case 4: return "x>0 or y>0";
                default: return cond();
            }
        }

        String block(int depth, int coins) {
            StringBuilder b = new StringBuilder("{").append(gap());
            int n = depth == 1 ? 1 + r.nextInt(4) : r.nextInt(3);
            int used = coins;
            for (int i = 0; i < n; i++) {
                if (i > 0) {
                    b.append(gap()).append(";").append(gap());
                }
                int[] now = {used};
                b.append(statement(depth, now));
                used = now[0];
            }
            lastCoins = used;
            return b.append(gap()).append("}").toString();
        }

        int lastCoins;

        String statement(int depth, int[] coins) {
            statements++;
            int kind = r.nextInt(14);
            if (depth >= 6 && odds(0.97)) {
                kind %= 7;
            }
            switch (kind) {
                case 0: case 1: case 2: return "x" + gap() + "=" + gap() + move("x");
                case 3: return "y" + gap() + "=" + gap() + move("y");
                case 4: case 5: return "pay" + gap() + r.nextInt(odds(0.01) ? 25 : 21);
                case 6: return odds(0.4) ? "out" : "x=x-1";
                case 7: case 8: case 9:
                    if (coins[0] >= 2 && odds(0.98)) { return "x=x-1"; }
                    return two("coin" + gap(), depth, coins, coins[0] + 1);
                case 10: case 11: case 12:
                    if (picks >= 3 && odds(0.98) || odds(wide)) { return "pay 1"; }
                    picks++;
                    return two("pick" + gap(), depth, coins, coins[0]);
                default: return two("if " + cond() + gap(), depth, coins, coins[0]);
            }
        }

        String two(String head, int depth, int[] coins, int start) {
            String first = block(depth + 1, start);
            int a = lastCoins;
            String second = block(depth + 1, start);
            coins[0] = Math.max(a, lastCoins);
            return head + first + gap() + second;
        }

        String loop() {
            statements = 0;
            picks = 0;
            tight = odds(0.5);
            down = odds(0.3);
            wide = odds(0.5) ? 0.6 : 0;
            int nx = r.nextInt(4) == 0 ? r.nextInt(10) : r.nextInt(4);
            StringBuilder b = new StringBuilder(gap()).append("x ").append(nx).append(gap()).append(";");
            if (odds(0.5)) {
                int top = 10 / (nx + 1) - 1;
                b.append(gap()).append("y ").append(odds(0.01) ? r.nextInt(10) : r.nextInt(top + 1)).append(gap()).append(";");
            }
            return b.append(gap()).append("while ").append(whileCond()).append(gap()).append(block(1, 0)).append(gap()).toString();
        }

        String guess() {
            tight = odds(0.5);
            StringBuilder b = new StringBuilder();
            int n = odds(0.1) ? r.nextInt(10) : r.nextInt(3);
            for (int i = 0; i < n; i++) {
                b.append(cond()).append(gap()).append("?").append(gap()).append(sum()).append(by()).append(gap()).append(";").append(gap());
            }
            return b.append(odds(0.5) ? r.nextInt(60) + "x+" + r.nextInt(60) + "y+" + r.nextInt(9) : sum()).append(by()).toString();
        }

        String by() {
            return odds(0.4) ? " by " + (1 + r.nextInt(odds(0.05) ? 14 : 12)) : "";
        }

        String mutate(String text) {
            StringBuilder b = new StringBuilder(text);
            String bytes = "xy;{}<=>+-? 0123456789abcdefghijklmnopqrstuvwzA\n~" + (char) 233 + (char) 255 + (char) 1;
            String[] words = {" x ", " y ", " pay ", " coin ", "{}{}", " pick ", " if ", " out ", " and ", " or ", " by ", " while ", "12", "007", "x=1;", "coin{}{};", "pick{}{};", "{{"};
            for (int i = r.nextInt(3); i >= 0 && b.length() > 0; i--) {
                int at = r.nextInt(b.length());
                switch (r.nextInt(5)) {
                    case 0: b.deleteCharAt(at); break;
                    case 1: b.setCharAt(at, bytes.charAt(r.nextInt(bytes.length()))); break;
                    case 2: b.insert(at, bytes.charAt(r.nextInt(bytes.length()))); break;
                    case 3: b.insert(at, words[r.nextInt(words.length)]); break;
                    default: b.setLength(at); break;
                }
            }
            return b.toString();
        }
    }

    // ---------------------------------------------------------------- random runs of calls

    static final class Driver {
        final long name;
        final Random r;
        final Maker maker;
        final CoinLoops real = new CoinLoops();
        final Model model = new Model();
        String last = "";
        int made = 0;

        Driver(long seed) {
            name = seed;
            r = new Random(seed * 7919 + 13);
            maker = new Maker(r);
        }

        void drive() {
            for (int i = 0; i < 6 && made < 480; i++) {
                text(r.nextInt(8) == 0 ? maker.mutate(maker.loop()) : maker.loop(), true);
                int blocks = 1 + r.nextInt(4);
                for (int b = 0; b < blocks && made < 480; b++) {
                    if (r.nextInt(3) > 0) {
                        text(r.nextInt(8) == 0 ? maker.mutate(maker.guess()) : maker.guess(), false);
                    }
                    int n = r.nextInt(40);
                    for (int k = 0; k < n && made < 480; k++) {
                        call();
                    }
                }
                everywhere();
            }
        }

        void due(String call, long got, long want) {
            made++;
            calls++;
            String method = call.substring(0, call.indexOf('('));
            String shape = method + (want < 0 ? " " + want : "");
            seen.merge(shape, 1, Integer::sum);
            if (got != want) {
                wrong++;
                System.out.println("seed " + name + ": " + call + " answered " + got + ", due is " + want + " with text [" + last + "]");
            }
        }

        void text(String text, boolean isLoop) {
            if (r.nextInt(10) > 0) {
                due("end(0)", real.end(0) ? 1 : 0, model.end(0) ? 1 : 0);
            } else {
                int n = r.nextInt(30) - 3;
                due("end(" + n + ")", real.end(n) ? 1 : 0, model.end(n) ? 1 : 0);
            }
            int at = 0;
            while (at < text.length()) {
                int[] five = new int[5];
                for (int i = 0; i < 20; i++) {
                    int b = 0;
                    if (r.nextInt(40) > 0 && at < text.length()) {
                        b = text.charAt(at++);
                    }
                    five[i / 4] = five[i / 4] << 8 | b;
                }
                due("feed(" + Arrays.toString(five) + ")", real.feed(five[0], five[1], five[2], five[3], five[4]), model.feed(five));
            }
            last = model.tape;
            due("count(0)", real.count(0), model.count(0));
            due("fault(0)", real.fault(0), model.faultOf(0));
            due("fault(1)", real.fault(1), model.faultOf(1));
            if (isLoop) {
                due("loop()", real.loop(), model.loop());
            } else {
                due("guess()", real.guess(), model.guess());
            }
        }

        int state() {
            return r.nextInt(12) == 0 ? r.nextInt(16) - 3 : r.nextInt(model.tree == null ? 3 : model.states());
        }

        int number(int below) {
            return r.nextInt(15) == 0 ? (r.nextInt(4) == 0 ? r.nextInt() : r.nextInt(below + 6) - 3) : r.nextInt(below);
        }

        void call() {
            int s = state(), t = state(), c = number(3), part = number(2);
            boolean most = r.nextBoolean();
            switch (r.nextInt(26)) {
                case 0: { int w = number(9); due("rule(" + w + ")", real.rule(w), model.rule(w)); break; }
                case 1: due("choices(" + s + ")", real.choices(s), model.choices(s)); break;
                case 2: { int w = number(3); choice(s, c, w); break; }
                case 3: due("leads(" + s + "," + c + "," + t + ")", real.leads(s, c, t), model.leads(s, c, t)); break;
                case 4: due("paid(" + s + "," + most + "," + part + ")", real.paid(s, most, part), model.paid(s, most, part)); break;
                case 5: due("ends(" + s + "," + most + "," + part + ")", real.ends(s, most, part), model.ends(s, most, part)); break;
                case 6: due("unsure()", real.unsure(), model.unsure()); break;
                case 7: due("plan(" + s + "," + most + "," + t + ")", real.plan(s, most, t), model.plan(s, most, t)); break;
                case 8: { int n = number(21); due("within(" + s + "," + n + "," + most + "," + part + ")", real.within(s, n, most, part), model.within(s, n, most, part)); break; }
                case 9: due("half(" + s + ")", real.half(s), model.half(s)); break;
                case 10: due("guessed(" + s + "," + part + ")", real.guessed(s, part), model.guessed(s, part)); break;
                case 11: due("ahead(" + s + "," + c + "," + part + ")", real.ahead(s, c, part), model.ahead(s, c, part)); break;
                case 12: case 13: { int w = number(5); due("refutes(" + w + ")", real.refutes(w), model.refutes(w)); break; }
                case 14: case 15: { int w = number(8); due("best(" + s + "," + w + ")", real.best(s, w), model.best(s, w)); break; }
                case 16: case 17: { int p = number(8), seed = r.nextInt(), n = number(201), w = number(5);
                    due("run(" + s + "," + p + "," + seed + "," + n + "," + w + ")", real.run(s, p, seed, n, w), model.run(s, p, seed, n, w)); break; }
                case 18: case 19: { int p = number(3), to = number(3) - 1; due("bind(" + p + "," + to + ")", real.bind(p, to), model.bind(p, to)); break; }
                case 20: { int k = number(4), n = number(21); due("price(" + k + "," + n + ")", real.price(k, n), model.price(k, n)); break; }
                case 21: case 22: { int w = number(9); due("most(" + w + ")", real.most(w), model.most(w)); break; }
                case 23: { int w = number(3); due("status(" + w + ")", real.status(w), model.status(w)); break; }
                case 24: { int w = number(2); due("count(" + w + ")", real.count(w), model.count(w)); break; }
                default: { int w = number(2); due("fault(" + w + ")", real.fault(w), model.faultOf(w)); break; }
            }
        }

        void choice(int s, int c, int w) {
            long got, want;
            try {
                got = real.choice(s, c, w);
            } catch (NoSuchElementException e) {
                got = -99;
            }
            try {
                want = model.choice(s, c, w);
            } catch (NoSuchElementException e) {
                want = -99;
            }
            due("choice(" + s + "," + c + "," + w + ")", got, want);
        }

        /** All STATES for once: what the random calls may miss. */
        void everywhere() {
            for (int s = 0; model.tree != null && s < model.states() && made < 440; s++) {
                for (int i = 0; i < 2; i++) {
                    due("paid(" + s + "," + (i > 0) + ",0)", real.paid(s, i > 0, 0), model.paid(s, i > 0, 0));
                    due("ends(" + s + "," + (i > 0) + ",0)", real.ends(s, i > 0, 0), model.ends(s, i > 0, 0));
                    due("plan(" + s + "," + (i > 0) + "," + s + ")", real.plan(s, i > 0, s), model.plan(s, i > 0, s));
                    due("best(" + s + "," + i + ")", real.best(s, i), model.best(s, i));
                    due("best(" + s + "," + (i + 4) + ")", real.best(s, i + 4), model.best(s, i + 4));
                }
                due("half(" + s + ")", real.half(s), model.half(s));
            }
            for (int w = 0; w < 3; w++) {
                due("status(" + w + ")", real.status(w), model.status(w));
            }
        }
    }
}
