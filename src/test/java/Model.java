import java.math.BigInteger;
import java.util.ArrayList;
import java.util.LinkedHashMap;
import java.util.List;
import java.util.Map;
import java.util.Set;
import java.util.TreeMap;
import java.util.TreeSet;

/**
 * The document told a second time, in other ways than the program's: terms are trees known by
 * their texts, texts are taken apart from outside, sums are exact without a bound. A call that
 * throws is told by Refused.
 */
final class Model {
    static final class Refused extends RuntimeException {
        private static final long serialVersionUID = 1L;

        final String name;

        Refused(String name) {
            this.name = name;
        }
    }

    static final class Node {
        final int kind;
        final int sort;
        final int name;
        final BigInteger top;
        final BigInteger bottom;
        final List<Node> parts;
        final int depth;
        final String text;

        Node(int kind, int sort, int name, List<Node> parts, BigInteger top, BigInteger bottom) {
            this.kind = kind;
            this.sort = sort;
            this.name = name;
            this.parts = parts;
            this.top = top;
            this.bottom = bottom;
            int deepest = 0;
            for (Node part : parts) {
                deepest = Math.max(deepest, part.depth);
            }
            depth = 1 + deepest;
            text = written();
        }

        private String written() {
            if (kind == 2) {
                return bottom.equals(BigInteger.ONE) ? top.toString() : top + "/" + bottom;
            }
            if (kind == 1) {
                return "xyz".substring(name, name + 1);
            }
            String head = kind == 0 ? String.valueOf((char) ('a' + name))
                    : "+*=<~&|!".substring(kind - 3, kind - 2);
            if (parts.isEmpty()) {
                return head;
            }
            StringBuilder s = new StringBuilder("(").append(head);
            if (kind == 10) {
                s.append(' ').append("xyz".charAt(name));
            }
            for (Node part : parts) {
                s.append(' ').append(part.text);
            }
            return s.append(')').toString();
        }

        Node part(int i) {
            return parts.get(i);
        }

        boolean is(Node other) {
            return text.equals(other.text);
        }

        Set<Integer> free() {
            Set<Integer> free = new TreeSet<>();
            for (Node part : parts) {
                free.addAll(part.free());
            }
            if (kind == 1) {
                free.add(name);
            }
            if (kind == 10) {
                free.remove(name);
            }
            return free;
        }
    }

    static final class Step {
        final List<Node> clause;
        final int scope;
        final boolean assumed;

        Step(List<Node> clause, int scope, boolean assumed) {
            this.clause = clause;
            this.scope = scope;
            this.assumed = assumed;
        }
    }

    int sorts = 2;
    final List<int[]> symbols = new ArrayList<>();
    final int[] variables = {1, 1, 1};
    final Map<String, Integer> numbers = new LinkedHashMap<>();
    final List<Node> terms = new ArrayList<>();
    final List<Step> steps = new ArrayList<>();
    /** For each scope the one around it; a closed one is taken off the list of open ones. */
    final List<Integer> depths = new ArrayList<>(List.of(0));
    final List<Integer> open = new ArrayList<>(List.of(0));
    String draft = "";
    int thrown = 0;

    int sort() {
        return sorts == 5 ? -1 : sorts++;
    }

    int symbol(int sort, int first, int second) {
        boolean fits = sort >= 0 && sort < sorts && first >= -1 && first < sorts && second >= -1
                && second < sorts && !(first == -1 && second != -1) && symbols.size() < 12;
        if (fits) {
            symbols.add(new int[] {sort, first, second});
        }
        return fits ? symbols.size() - 1 : -1;
    }

    boolean variable(int v, int sort) {
        if (v < 0 || v > 2 || sort < 0 || sort >= sorts || !terms.isEmpty()) {
            return false;
        }
        variables[v] = sort;
        return true;
    }

    boolean draft(long s) {
        StringBuilder more = new StringBuilder();
        for (long rest = s; (rest & 255) != 0; rest >>>= 8) {
            more.append((char) (rest & 255));
        }
        if (more.length() == 0 || draft.length() + more.length() > 120
                || !more.toString().matches("[ -~]*")) {
            return false;
        }
        draft += more;
        return true;
    }

    int term() {
        String text = draft;
        draft = "";
        int deep = 0;
        for (char c : text.toCharArray()) {
            deep += c == '(' ? 1 : c == ')' ? -1 : 0;
            if (deep > 12) {
                throw wrong();
            }
        }
        Node t = parsed(text);
        makeAll(List.of(t), 0);
        return numbers.get(t.text);
    }

    private Node parsed(String s) {
        if (s.matches("-?[0-9]{1,5}(/[0-9]{1,5})?")) {
            String[] sides = s.split("/");
            return constant(new BigInteger(sides[0]),
                    sides.length == 1 ? BigInteger.ONE : new BigInteger(sides[1]));
        }
        if (s.matches("[xyz]")) {
            int v = s.charAt(0) - 'x';
            return new Node(1, variables[v], v, List.of(), null, null);
        }
        if (s.matches("[a-l]")) {
            return applied(s.charAt(0) - 'a', List.of());
        }
        if (!s.startsWith("(") || !s.endsWith(")") || s.length() < 3) {
            throw wrong();
        }
        char head = s.charAt(1);
        List<String> pieces = pieces(s.substring(2, s.length() - 1));
        if (head == '!') {
            if (pieces.size() != 2 || !pieces.get(0).matches("[xyz]")) {
                throw wrong();
            }
            return all(pieces.get(0).charAt(0) - 'x', parsed(pieces.get(1)));
        }
        List<Node> parts = new ArrayList<>();
        for (String piece : pieces) {
            parts.add(parsed(piece));
        }
        if (head >= 'a' && head <= 'l' && !parts.isEmpty()) {
            return applied(head - 'a', parts);
        }
        return connected(head, parts);
    }

    /** What stands behind blanks that are in no bracket. */
    private List<String> pieces(String s) {
        List<String> pieces = new ArrayList<>();
        int deep = 0;
        for (char c : s.toCharArray()) {
            if (c == ' ' && deep == 0) {
                pieces.add("");
                continue;
            }
            deep += c == '(' ? 1 : c == ')' ? -1 : 0;
            if (deep < 0 || pieces.isEmpty()) {
                throw wrong();
            }
            pieces.set(pieces.size() - 1, pieces.get(pieces.size() - 1) + c);
        }
        return pieces;
    }

    private Node constant(BigInteger top, BigInteger bottom) {
        if (bottom.signum() == 0) {
            throw wrong();
        }
        BigInteger common = top.gcd(bottom);
        return new Node(2, 1, -1, List.of(), top.divide(common), bottom.divide(common));
    }

    private Node applied(int symbol, List<Node> parts) {
        if (symbol >= symbols.size()) {
            throw wrong();
        }
        int[] sorts = symbols.get(symbol);
        for (int i = 0; i < Math.max(parts.size(), 2); i++) {
            int sort = i < parts.size() ? parts.get(i).sort : -1;
            if (i > 1 || sort != sorts[i + 1]) {
                throw wrong();
            }
        }
        return new Node(0, sorts[0], symbol, parts, null, null);
    }

    private Node all(int v, Node truth) {
        if (truth.sort != 0) {
            throw wrong();
        }
        return new Node(10, 0, v, List.of(truth), null, null);
    }

    private Node connected(char head, List<Node> parts) {
        int kind = "+*=<~&|".indexOf(head) + 3;
        if (kind < 3 || parts.size() != (kind == 7 ? 1 : 2)) {
            throw wrong();
        }
        for (Node part : parts) {
            int want = kind == 5 ? parts.get(0).sort : kind <= 6 ? 1 : 0;
            if (part.sort != want) {
                throw wrong();
            }
        }
        if (kind == 4 && parts.get(0).kind != 2) {
            throw wrong();
        }
        return new Node(kind, kind < 5 ? 1 : 0, -1, parts, null, null);
    }

    private Node equal(Node p, Node q) {
        return new Node(5, 0, -1, List.of(p, q), null, null);
    }

    private Node opposite(Node t) {
        return t.kind == 7 ? t.part(0) : new Node(7, 0, -1, List.of(t), null, null);
    }

    int assume(int t) {
        return enter(List.of(truth(t)), true);
    }

    int cut(int i, int t, int j) {
        List<Node> from = standing(i).clause;
        Node truth = at(t);
        List<Node> against = standing(j).clause;
        if (!has(from, truth) || !has(against, opposite(truth))) {
            throw wrong();
        }
        List<Node> row = new ArrayList<>(from);
        row.removeIf(truth::is);
        List<Node> rest = new ArrayList<>(against);
        rest.removeIf(opposite(truth)::is);
        row.addAll(rest);
        return enter(row, false);
    }

    private boolean has(List<Node> row, Node t) {
        return row.stream().anyMatch(t::is);
    }

    int widen(int i, int t) {
        List<Node> row = new ArrayList<>(standing(i).clause);
        row.add(truth(t));
        return enter(row, false);
    }

    int meaning(int t, int which) {
        Node n = at(t);
        if (n.parts.size() != 2 || (n.kind != 8 && n.kind != 9 && n.kind != 5)
                || n.part(0).sort != 0) {
            throw wrong();
        }
        // t, p, q, with a - before the opposite.
        String[] and = {"-t p", "-t q", "t -p -q"};
        String[] or = {"-t p q", "t -p", "t -q"};
        String[] equal = {"-t -p q", "-t p -q", "t p q", "t -p -q"};
        String[] meanings = n.kind == 8 ? and : n.kind == 9 ? or : equal;
        if (which < 0 || which >= meanings.length) {
            throw wrong();
        }
        List<Node> row = new ArrayList<>();
        for (String word : meanings[which].split(" ")) {
            char last = word.charAt(word.length() - 1);
            Node truth = last == 't' ? n : n.part(last - 'p');
            row.add(word.startsWith("-") ? opposite(truth) : truth);
        }
        return enter(row, false);
    }

    int same(int t) {
        return enter(List.of(equal(at(t), at(t))), false);
    }

    int chain(int t, int u) {
        Node n = at(t);
        Node m = at(u);
        if (n.kind != 5 || m.kind != 5 || !n.part(1).is(m.part(0))) {
            throw wrong();
        }
        return enter(List.of(opposite(n), opposite(m), equal(n.part(0), m.part(1))), false);
    }

    int turn(int t) {
        Node n = at(t);
        if (n.kind != 5) {
            throw wrong();
        }
        return enter(List.of(opposite(n), equal(n.part(1), n.part(0))), false);
    }

    int replace(int t, int u) {
        Node n = at(t);
        Node m = at(u);
        if (n.kind != m.kind || n.kind == 10 || n.parts.isEmpty() || n.name != m.name) {
            throw wrong();
        }
        List<Node> row = new ArrayList<>();
        for (int i = 0; i < n.parts.size(); i++) {
            if (n.part(i).sort != m.part(i).sort) {
                throw wrong();
            }
            if (!n.part(i).is(m.part(i))) {
                row.add(opposite(equal(n.part(i), m.part(i))));
            }
        }
        row.add(equal(n, m));
        return enter(row, false);
    }

    int linear(int t, int u, int v, int first, int second, int third) {
        int[] factors = {first, second, third};
        List<Node> row = new ArrayList<>();
        for (int number : new int[] {t, u, v}) {
            row.add(number == -1 && row.size() > 0 ? null : at(number));
        }
        if (row.get(1) == null && row.get(2) != null) {
            throw wrong();
        }
        for (int i = 0; i < 3; i++) {
            if (row.get(i) != null) {
                checkWeighable(row.get(i), factors[i]);
            }
        }
        boolean strict = false;
        Map<String, BigInteger[]> total = new TreeMap<>();
        for (int i = 0; i < 3; i++) {
            Node n = row.get(i);
            if (n == null) {
                continue;
            }
            strict |= n.kind == 6 && factors[i] > 0;
            Node less = n.kind == 7 ? n.part(0) : n;
            boolean turned = n.kind == 7 && less.kind == 6;
            Map<String, BigInteger[]> minus =
                    times(sum(less.part(turned ? 0 : 1)), big(-1), BigInteger.ONE);
            Map<String, BigInteger[]> excess = plus(sum(less.part(turned ? 1 : 0)), minus);
            total = plus(total, times(excess, big(factors[i]), BigInteger.ONE));
        }
        BigInteger[] constant = total.remove("");
        int sign = constant == null ? 0 : constant[0].signum();
        if (!total.isEmpty() || sign > 0 || (sign == 0 && !strict)) {
            throw wrong();
        }
        row.removeIf(n -> n == null);
        return enter(row, false);
    }

    private static BigInteger big(long value) {
        return BigInteger.valueOf(value);
    }

    private void checkWeighable(Node n, int factor) {
        boolean less = n.kind == 6 || (n.kind == 7 && n.part(0).kind == 6);
        boolean unequal = n.kind == 7 && n.part(0).kind == 5 && n.part(0).part(0).sort == 1;
        if (factor < -99 || factor > 99 || (!less && !unequal) || (less && factor < 0)) {
            throw wrong();
        }
    }

    /** By the text of the atom; the constant's is empty. Coefficients that are 0 are left out. */
    private Map<String, BigInteger[]> sum(Node n) {
        Map<String, BigInteger[]> sum = new TreeMap<>();
        if (n.kind == 3) {
            return plus(sum(n.part(0)), sum(n.part(1)));
        }
        if (n.kind == 4) {
            return times(sum(n.part(1)), n.part(0).top, n.part(0).bottom);
        }
        if (n.kind == 2) {
            put(sum, "", n.top, n.bottom);
        } else {
            put(sum, n.text, BigInteger.ONE, BigInteger.ONE);
        }
        return sum;
    }

    private void put(Map<String, BigInteger[]> sum, String atom, BigInteger p, BigInteger q) {
        BigInteger common = p.gcd(q);
        BigInteger top = p.divide(common);
        BigInteger bottom = q.divide(common);
        BigInteger most = BigInteger.TEN.pow(9);
        if (top.abs().compareTo(most) > 0 || bottom.compareTo(most) > 0) {
            throw new Refused(Bench.TOO_GREAT);
        }
        sum.remove(atom);
        if (top.signum() != 0) {
            sum.put(atom, new BigInteger[] {top, bottom});
        }
    }

    private Map<String, BigInteger[]> plus(Map<String, BigInteger[]> a,
            Map<String, BigInteger[]> b) {
        Map<String, BigInteger[]> sum = new TreeMap<>(a);
        b.forEach((atom, f) -> {
            BigInteger[] g = sum.getOrDefault(atom,
                    new BigInteger[] {BigInteger.ZERO, BigInteger.ONE});
            put(sum, atom, f[0].multiply(g[1]).add(g[0].multiply(f[1])), f[1].multiply(g[1]));
        });
        return sum;
    }

    private Map<String, BigInteger[]> times(Map<String, BigInteger[]> a, BigInteger p,
            BigInteger q) {
        Map<String, BigInteger[]> sum = new TreeMap<>();
        a.forEach((atom, f) -> put(sum, atom, f[0].multiply(p), f[1].multiply(q)));
        return sum;
    }

    int instance(int t, int u) {
        Node n = at(t);
        Node value = at(u);
        if (n.kind != 10 || variables[n.name] != value.sort) {
            throw wrong();
        }
        return enter(List.of(opposite(n), put(value, n.name, n.part(0), Set.of())), false);
    }

    private Node put(Node value, int v, Node t, Set<Integer> bound) {
        if (t.kind == 1) {
            if (t.name != v || bound.contains(v)) {
                return t;
            }
            for (int w : bound) {
                if (value.free().contains(w)) {
                    throw wrong();
                }
            }
            return value;
        }
        Set<Integer> inside = new TreeSet<>(bound);
        if (t.kind == 10) {
            inside.add(t.name);
        }
        List<Node> parts = new ArrayList<>();
        for (Node part : t.parts) {
            parts.add(put(value, v, part, inside));
        }
        return new Node(t.kind, t.sort, t.name, parts, t.top, t.bottom);
    }

    int open() {
        if (depths.size() == 21) {
            throw new Refused(Bench.NO_ROOM);
        }
        open.add(depths.size());
        depths.add(open.size() - 1);
        return open.size() - 1;
    }

    int close() {
        int inner = innermost();
        List<Node> row = new ArrayList<>();
        List<Node> latest = null;
        for (Step step : steps) {
            if (step.scope == inner) {
                latest = step.clause;
                if (step.assumed) {
                    row.add(opposite(step.clause.get(0)));
                }
            }
        }
        if (inner == 0 || latest == null) {
            throw wrong();
        }
        row.addAll(latest);
        open.remove(open.size() - 1);
        try {
            return enter(row, false);
        } catch (Refused e) {
            open.add(inner);
            throw e;
        }
    }

    int clause(int step, int k) {
        if (step < 0 || step >= steps.size()) {
            return -1;
        }
        List<Node> clause = steps.get(step).clause;
        if (k == -1) {
            return clause.size();
        }
        return k >= 0 && k < clause.size() ? numbers.get(clause.get(k).text) : -1;
    }

    int scope(int step) {
        if (step < 0 || step >= steps.size()) {
            return -1;
        }
        int scope = steps.get(step).scope;
        return depths.get(scope) + (open.contains(scope) ? 0 : 100);
    }

    int empty() {
        for (int i = 0; i < steps.size(); i++) {
            if (steps.get(i).scope == 0 && steps.get(i).clause.isEmpty()) {
                return i;
            }
        }
        return -1;
    }

    int look(int t, int what) {
        if (t == -1 && what >= 0 && what <= 2) {
            return new int[] {terms.size(), steps.size(), thrown}[what];
        }
        if (t < 0 || t >= terms.size() || what < 0 || what > 5) {
            return -2;
        }
        Node n = terms.get(t);
        int[] parts = {-1, -1};
        for (int i = 0; i < n.parts.size(); i++) {
            parts[i] = numbers.get(n.part(i).text);
        }
        return new int[] {n.kind, n.sort, n.depth, parts[0], parts[1], n.name}[what];
    }

    int text(int t, int i) {
        if (t < 0 || t >= terms.size() || i < -1 || i >= terms.get(t).text.length()) {
            return -2;
        }
        return i == -1 ? terms.get(t).text.length() : terms.get(t).text.charAt(i);
    }

    int innermost() {
        return open.get(open.size() - 1);
    }

    boolean stands(int step) {
        return step >= 0 && step < steps.size() && open.contains(steps.get(step).scope);
    }

    private Refused wrong() {
        return new Refused(Bench.WRONG);
    }

    private Node at(int t) {
        if (t < 0 || t >= terms.size()) {
            throw new Refused(Bench.MISSING);
        }
        return terms.get(t);
    }

    private Node truth(int t) {
        if (at(t).sort != 0) {
            throw wrong();
        }
        return at(t);
    }

    private Step standing(int step) {
        if (!stands(step)) {
            throw new Refused(Bench.MISSING);
        }
        return steps.get(step);
    }

    private int enter(List<Node> row, boolean assumed) {
        Map<String, Node> different = new LinkedHashMap<>();
        for (Node n : row) {
            different.putIfAbsent(n.text, n);
        }
        int lacking = (different.size() > 8 ? 1 : 0) + (steps.size() == 60 ? 1 : 0);
        makeAll(row, lacking);
        steps.add(new Step(new ArrayList<>(different.values()), innermost(), assumed));
        return steps.size() - 1;
    }

    private void makeAll(List<Node> wholes, int lacking) {
        Map<String, Node> made = new LinkedHashMap<>();
        for (Node n : wholes) {
            if (n.depth > 12) {
                throw new Refused(Bench.TOO_GREAT);
            }
            collect(n, made);
        }
        if (lacking > 0 || terms.size() + made.size() > 100) {
            throw new Refused(Bench.NO_ROOM);
        }
        made.forEach((text, n) -> {
            numbers.put(text, terms.size());
            terms.add(n);
        });
    }

    private void collect(Node n, Map<String, Node> made) {
        if (numbers.containsKey(n.text) || made.containsKey(n.text)) {
            return;
        }
        for (Node part : n.parts) {
            collect(part, made);
        }
        made.put(n.text, n);
    }
}
