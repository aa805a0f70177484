import java.util.ArrayList;
import java.util.List;
import java.util.Map;
import java.util.Random;
import java.util.TreeMap;
import java.util.function.IntSupplier;
import java.util.function.Predicate;
import java.util.function.ToIntFunction;

/**
 * Long runs of calls, the same on the program and on the model; every answer must agree. An
 * argument tells how many runs; each is made from its number, so that it is the same each time.
 */
public final class ModelTest {
    private static final int RUNS = 400;
    /** The rest of the calls that an object may be used for is left for questions. */
    private static final int MOST_CALLS = 480;

    private static final String NEVER_THROWING =
            "(sort|symbol|variable|draft|empty|scope|clause|look|text)\\b.*";

    /** How often each call had each kind of outcome: the runs must come by all of them. */
    private static final Map<String, Integer> seen = new TreeMap<>();

    private final Random random;
    private final Bench bench = new Bench();
    private final Model model = new Model();
    private final List<ToIntFunction<Bench>> made = new ArrayList<>();
    private final int run;
    private final int length;
    // What kind of run it is: one of many mistakes, one of deep terms, one of many scopes.
    private final boolean careless;
    private final boolean deep;
    private final boolean scoped;
    private String latest = "";
    /** Nothing fits what was wished for: the call is left out, as too many throws end a run. */
    private boolean lacking = false;

    private ModelTest(int run) {
        this.run = run;
        random = new Random(run);
        length = run % 3 == 0 ? 40 + random.nextInt(200) : MOST_CALLS - 20;
        careless = run % 8 == 0;
        deep = run % 8 == 1 || run % 8 == 2;
        scoped = run % 8 == 2 || run % 8 == 3;
    }

    public static void main(String[] args) {
        int runs = args.length > 0 ? Integer.parseInt(args[0]) : RUNS;
        for (int run = 0; run < runs; run++) {
            new ModelTest(run).go();
        }
        String[] all = {"cut", "meaning", "chain", "turn", "replace", "linear", "instance"};
        for (String call : all) {
            mustBeSeen(call, "a number", Bench.MISSING, Bench.WRONG, Bench.NO_ROOM);
            if (!call.equals("cut")) {
                mustBeSeen(call, Bench.TOO_GREAT);
            }
        }
        mustBeSeen("term", "a number", "-1", Bench.WRONG, Bench.TOO_GREAT, Bench.NO_ROOM);
        mustBeSeen("assume", "a number", "-1", Bench.MISSING, Bench.WRONG, Bench.NO_ROOM);
        mustBeSeen("widen", "a number", Bench.MISSING, Bench.WRONG, Bench.NO_ROOM);
        mustBeSeen("same", "a number", Bench.MISSING, Bench.TOO_GREAT, Bench.NO_ROOM);
        mustBeSeen("open", "a number", "-1", Bench.NO_ROOM);
        mustBeSeen("close", "a number", Bench.WRONG, Bench.TOO_GREAT, Bench.NO_ROOM);
        mustBeSeen("empty", "a number", "-1");
        Bench.end();
    }

    private static void mustBeSeen(String call, String... outcomes) {
        for (String outcome : outcomes) {
            Bench.due("seen " + call + " " + outcome,
                    seen.getOrDefault(call + " " + outcome, 0) > 0, true);
        }
    }

    private void go() {
        signature();
        while (bench.calls() < length) {
            oneCall(random.nextInt(100));
        }
        compareAll();
    }

    private void due(String call, ToIntFunction<Bench> program, IntSupplier plan) {
        if (lacking && !careless || bench.calls() >= MOST_CALLS) {
            return;
        }
        boolean throwing = !call.matches(NEVER_THROWING);
        String want;
        if (throwing && model.thrown >= 60) {
            want = "-1";
        } else {
            try {
                want = String.valueOf(plan.getAsInt());
            } catch (Model.Refused e) {
                model.thrown++;
                want = e.name;
            }
        }
        latest = want;
        made.add(program);
        String got = Bench.outcome(() -> program.applyAsInt(bench));
        Bench.due("run " + run + " call " + bench.calls() + ": " + call, got, want);
        String kind = want.matches("\\d+") ? "a number" : want;
        seen.merge(call.replaceAll("\\(.*", "") + " " + kind, 1, Integer::sum);
    }

    private void signature() {
        for (int i = random.nextInt(4); i > 0; i--) {
            due("sort()", Bench::sort, model::sort);
        }
        for (int v = 0; v < 3; v++) {
            if (random.nextBoolean() || deep) {
                variable(v, deep ? 0 : random.nextInt(model.sorts));
            }
        }
        for (int i = 3 + random.nextInt(9); i > 0; i--) {
            int first = random.nextInt(3) == 0 ? random.nextInt(model.sorts) : -1;
            int second = first >= 0 && random.nextBoolean() ? random.nextInt(model.sorts) : -1;
            symbol(random.nextInt(3) == 0 ? random.nextInt(model.sorts) : random.nextInt(2),
                    first, second);
        }
    }

    private void variable(int v, int sort) {
        due("variable(" + v + ", " + sort + ")", b -> b.variable(v, sort) ? 1 : 0,
                () -> model.variable(v, sort) ? 1 : 0);
    }

    private void symbol(int sort, int first, int second) {
        due("symbol(" + sort + ", " + first + ", " + second + ")",
                b -> b.symbol(sort, first, second),
                () -> model.symbol(sort, first, second));
    }

    private void draft(long s) {
        due("draft(" + s + ")", b -> b.draft(s) ? 1 : 0,
                () -> model.draft(s) ? 1 : 0);
    }

    private void read(String text) {
        for (int i = 0; i < text.length(); i += 8) {
            draft(Bench.packed(text.substring(i, Math.min(i + 8, text.length()))));
        }
        due("term() of " + model.draft, Bench::term, model::term);
    }

    private void oneCall(int dice) {
        lacking = false;
        if (scoped && random.nextInt(6) == 0) {
            someScope(random.nextInt(3) > 0);
        }
        if (dice < 22) {
            read(someText());
        } else if (dice < 30) {
            int t = any(n -> n.sort == 0);
            due("assume(" + t + ")", b -> b.assume(t), () -> model.assume(t));
        } else if (dice < 40) {
            someCut();
        } else if (dice < 44) {
            int i = anyStep();
            int t = any(n -> n.sort == 0);
            due("widen(" + i + ", " + t + ")", b -> b.widen(i, t),
                    () -> model.widen(i, t));
        } else if (dice < 51) {
            int t = any(n -> n.kind == 8 || n.kind == 9
                    || (n.kind == 5 && (n.part(0).sort == 0 || odd())));
            int which = odd() ? random.nextInt(8) - 2 : random.nextInt(3);
            due("meaning(" + t + ", " + which + ")", b -> b.meaning(t, which),
                    () -> model.meaning(t, which));
        } else if (dice < 53) {
            int t = any(n -> true);
            due("same(" + t + ")", b -> b.same(t), () -> model.same(t));
        } else if (dice < 65) {
            someEquality(dice);
        } else if (dice < 75) {
            someLinear();
        } else if (dice < 82) {
            someInstance();
        } else if (dice < 90) {
            someScope(dice < 85);
        } else {
            someQuestion();
        }
    }

    private void someScope(boolean opening) {
        if (opening || (scoped && random.nextInt(3) > 0)) {
            due("open()", Bench::open, model::open);
        } else if (model.innermost() != 0 || odd()) {
            due("close()", Bench::close, model::close);
        }
    }

    private void someQuestion() {
        switch (random.nextInt(6)) {
            case 0 -> draft(random.nextInt(4) == 0 ? random.nextLong() : random.nextInt(1 << 15));
            case 1 -> due("empty()", Bench::empty, model::empty);
            case 2 -> variable(random.nextInt(5) - 1, random.nextInt(7) - 1);
            case 3 -> symbol(random.nextInt(7) - 1, random.nextInt(8) - 2, random.nextInt(8) - 2);
            case 4 -> due("sort()", Bench::sort, model::sort);
            default -> compareOdd();
        }
    }

    private void compareOdd() {
        int t = random.nextInt(110) - 5;
        int k = random.nextInt(20) - 5;
        Question[] questions = {look(t, k), text(t, k), clause(t, k), scope(t)};
        for (Question q : questions) {
            due(q.name, q.call, q::want);
        }
    }

    private void someCut() {
        List<int[]> fitting = new ArrayList<>();
        for (int i = 0; i < model.steps.size(); i++) {
            for (Model.Node t : model.steps.get(i).clause) {
                for (int j = 0; j < model.steps.size(); j++) {
                    for (Model.Node u : model.steps.get(j).clause) {
                        boolean opposite = t.kind == 7 ? t.part(0).is(u)
                                : u.kind == 7 && u.part(0).is(t);
                        if (opposite && (model.stands(i) && model.stands(j) || careless)) {
                            fitting.add(new int[] {i, model.numbers.get(t.text), j});
                        }
                    }
                }
            }
        }
        boolean free = fitting.isEmpty() || odd();
        int[] c = free ? new int[] {anyStep(), any(n -> n.sort == 0), anyStep()}
                : fitting.get(random.nextInt(fitting.size()));
        if (free && fitting.isEmpty() && !careless && random.nextInt(4) > 0) {
            return;
        }
        due("cut(" + c[0] + ", " + c[1] + ", " + c[2] + ")",
                b -> b.cut(c[0], c[1], c[2]), () -> model.cut(c[0], c[1], c[2]));
    }

    private void someEquality(int dice) {
        int t = any(n -> n.kind == 5);
        if (dice < 56) {
            due("turn(" + t + ")", b -> b.turn(t), () -> model.turn(t));
        } else if (dice < 60) {
            Model.Node n = node(t);
            int u = any(m -> m.kind == 5
                    && (n == null || n.kind != 5 || n.part(1).is(m.part(0))));
            due("chain(" + t + ", " + u + ")", b -> b.chain(t, u),
                    () -> model.chain(t, u));
        } else {
            int p = any(n -> !n.parts.isEmpty() && n.kind != 10);
            Model.Node n = node(p);
            int q = any(m -> n == null || (m.kind == n.kind && m.name == n.name));
            due("replace(" + p + ", " + q + ")", b -> b.replace(p, q),
                    () -> model.replace(p, q));
        }
    }

    private void someLinear() {
        if (random.nextInt(4) > 0 && model.thrown < 50) {
            linearThatHolds();
            return;
        }
        Predicate<Model.Node> form = n -> n.kind == 6
                || (n.kind == 7 && (n.part(0).kind == 6 || n.part(0).kind == 5));
        int t = any(form);
        int u = random.nextInt(3) == 0 ? -1 : any(form);
        int v = random.nextInt(2) == 0 ? -1 : any(form);
        linear(t, u, v, factor(), factor(), factor());
    }

    private void linear(int t, int u, int v, int... f) {
        due("linear(" + t + ", " + u + ", " + v + ", " + f[0] + ", " + f[1] + ", " + f[2] + ")",
                b -> b.linear(t, u, v, f[0], f[1], f[2]),
                () -> model.linear(t, u, v, f[0], f[1], f[2]));
    }

    /** Truths that hold by their form, so that some sums come out as they have to. */
    private void linearThatHolds() {
        String p = number(1);
        String q = number(1);
        String r = number(0);
        String[] texts;
        int k = 1 + random.nextInt(3);
        switch (random.nextInt(4)) {
            case 0 -> texts = new String[] {"(~ " + of("<", p, q) + ")", of("<", p, q)};
            case 1 -> texts = new String[] {"(~ " + of("<", p, q) + ")",
                "(~ " + of("<", q, r) + ")", of("<", p, r)};
            case 2 -> texts = new String[] {"(~ " + of("=", p, q) + ")", of("<", q, p)};
            default -> texts = new String[] {
                of("<", of("+", p, r), of("+", r, of("+", "1/2", p)))};
        }
        int[] t = {-1, -1, -1};
        int[] f = {k, k, k};
        for (int i = 0; i < texts.length; i++) {
            read(texts[i].length() <= 120 ? texts[i] : "(< 0 1)");
            t[i] = latest.matches("\\d+") ? Integer.parseInt(latest) : any(n -> n.kind == 6);
        }
        linear(t[0], t[1], t[2], f);
    }

    private static String of(String head, String p, String q) {
        return "(" + head + " " + p + " " + q + ")";
    }

    private int factor() {
        int[] factors = {0, -1, 1, 1, 1, 1, 1, 2, 2, 2, 3, random.nextInt(400) - 200};
        return factors[random.nextInt(factors.length)];
    }

    private void someInstance() {
        int t = any(n -> n.kind == 10);
        Model.Node n = node(t);
        int u = any(m -> n == null || n.kind != 10 || m.sort == model.variables[n.name]);
        due("instance(" + t + ", " + u + ")", b -> b.instance(t, u),
                () -> model.instance(t, u));
    }

    private boolean odd() {
        return random.nextInt(careless ? 4 : 40) == 0;
    }

    private Model.Node node(int t) {
        return t >= 0 && t < model.terms.size() ? model.terms.get(t) : null;
    }

    /** A term of the kind that is wished for if there is one; at times any number at all. */
    private int any(Predicate<Model.Node> wish) {
        if (odd()) {
            return random.nextInt(model.terms.size() + 5) - 3;
        }
        List<Integer> fitting = new ArrayList<>();
        for (int t = 0; t < model.terms.size(); t++) {
            if (wish.test(model.terms.get(t))) {
                fitting.add(t);
            }
        }
        if (fitting.isEmpty()) {
            lacking = true;
            return random.nextInt(model.terms.size() + 1) - 1;
        }
        int t = fitting.get(random.nextInt(fitting.size()));
        int u = fitting.get(random.nextInt(fitting.size()));
        return deep && node(u).depth > node(t).depth ? u : t;
    }

    private int anyStep() {
        if (odd()) {
            return random.nextInt(model.steps.size() + 5) - 3;
        }
        List<Integer> fitting = new ArrayList<>();
        for (int i = 0; i < model.steps.size(); i++) {
            if (model.stands(i)) {
                fitting.add(i);
            }
        }
        return fitting.isEmpty() ? 0 : fitting.get(random.nextInt(fitting.size()));
    }

    /** One ! in another, with what is free and what is not; at times of one variable. */
    private String nested() {
        char v = "xyz".charAt(random.nextInt(3));
        char w = "xyz".charAt(random.nextInt(3));
        String p = of("=", String.valueOf(v), String.valueOf(v));
        String q = of("=", String.valueOf(w), String.valueOf(w));
        String inner = "(! " + w + " " + (random.nextBoolean() ? p : of("&", q, p)) + ")";
        return "(! " + v + " " + (random.nextBoolean() ? inner : of("|", q, inner)) + ")";
    }

    private String someText() {
        if (random.nextInt(12) == 0) {
            return nested();
        }
        if (deep && random.nextInt(6) == 0) {
            return "(! x " + Bench.nots(random.nextInt(10), "(= x x)") + ")";
        }
        if (random.nextInt(deep ? 4 : 30) == 0) {
            String text = Bench.nots(random.nextInt(deep ? 11 : 15), termOf(0, deep ? 3 : 1));
            return text.length() <= 120 ? text : termOf(0, 2);
        }
        String text = random.nextInt(4) == 0 ? termOf(random.nextInt(model.sorts), 3)
                : termOf(0, 2 + random.nextInt(3));
        if (text.length() > 120) {
            text = termOf(0, 2);
        }
        if (odd()) {
            int i = random.nextInt(text.length());
            char c = (char) (32 + random.nextInt(95));
            text = text.substring(0, i) + (random.nextBoolean() ? "" : c)
                    + text.substring(i + random.nextInt(2));
        }
        return text.isEmpty() ? "(" : text.length() > 120 ? text.substring(0, 120) : text;
    }

    private String termOf(int sort, int size) {
        List<String> ways = new ArrayList<>();
        for (int v = 0; v < 3; v++) {
            if (model.variables[v] == sort) {
                ways.add(String.valueOf("xyz".charAt(v)));
            }
        }
        for (int i = 0; i < model.symbols.size(); i++) {
            int[] s = model.symbols.get(i);
            char letter = (char) ('a' + i);
            if (s[0] == sort && s[1] == -1) {
                ways.add(String.valueOf(letter));
            } else if (s[0] == sort && size > 0) {
                ways.add("(" + letter + " " + termOf(s[1], size - 1)
                        + (s[2] == -1 ? "" : " " + termOf(s[2], size - 1)) + ")");
            }
        }
        if (sort == 1) {
            ways.add(number(size));
        }
        if (sort == 0) {
            ways.add(truth(size));
            ways.add(truth(size));
        }
        return ways.isEmpty() ? "a" : ways.get(random.nextInt(ways.size()));
    }

    private String number(int size) {
        int dice = size > 0 ? random.nextInt(5) : 0;
        if (dice < 2) {
            return constant();
        }
        if (dice == 2) {
            return "(* " + constant() + " " + termOf(1, size - 1) + ")";
        }
        return "(+ " + termOf(1, size - 1) + " " + termOf(1, size - 1) + ")";
    }

    private String constant() {
        int dice = random.nextInt(12);
        if (dice == 0) {
            return (random.nextInt(199999) - 99999) + "/" + (1 + random.nextInt(99999));
        }
        if (dice == 1) {
            return String.valueOf(random.nextInt(199999) - 99999);
        }
        return dice < 5 ? (random.nextInt(9) - 4) + "/" + random.nextInt(7)
                : String.valueOf(random.nextInt(7) - 3);
    }

    private String truth(int size) {
        if (size <= 0) {
            return "(< 0 1)";
        }
        int other = random.nextInt(model.sorts);
        switch (random.nextInt(8)) {
            case 0: return "(~ " + termOf(0, size - 1) + ")";
            case 1: return "(& " + termOf(0, size - 1) + " " + termOf(0, size - 1) + ")";
            case 2: return "(| " + termOf(0, size - 1) + " " + termOf(0, size - 1) + ")";
            case 3: return "(= " + termOf(other, size - 1) + " " + termOf(other, size - 1) + ")";
            case 4: return "(< " + termOf(1, size - 1) + " " + termOf(1, size - 1) + ")";
            case 5: return "(~ (= " + termOf(1, size - 1) + " " + termOf(1, size - 1) + "))";
            case 6: return "(~ (< " + termOf(1, size - 1) + " " + termOf(1, size - 1) + "))";
            default:
                char v = "xyz".charAt(random.nextInt(3));
                return "(! " + v + " " + termOf(0, size - 1) + ")";
        }
    }

    private record Question(String name, ToIntFunction<Bench> call, int want) {
    }

    /** Each question is asked of an object that has calls left for it. */
    private void compareAll() {
        Bench asked = bench;
        for (Question q : questions()) {
            if (asked.calls() >= Bench.MOST_CALLS) {
                asked = replayed();
            }
            Bench.due("run " + run + " at the end: " + q.name, q.call.applyAsInt(asked), q.want);
        }
    }

    /** All that can be asked of what is there, and a little more. */
    private List<Question> questions() {
        List<Question> all = new ArrayList<>();
        all.add(new Question("empty()", Bench::empty, model.empty()));
        for (int t = -1; t <= model.terms.size(); t++) {
            for (int what = 0; what < 6; what++) {
                all.add(look(t, what));
            }
            for (int i = -1; i <= Math.max(model.text(t, -1), 0); i++) {
                all.add(text(t, i));
            }
        }
        for (int i = -1; i <= model.steps.size(); i++) {
            all.add(scope(i));
            for (int k = -1; k <= Math.max(model.clause(i, -1), 0); k++) {
                all.add(clause(i, k));
            }
        }
        return all;
    }

    private Question look(int t, int what) {
        return new Question("look(" + t + ", " + what + ")", b -> b.look(t, what),
                model.look(t, what));
    }

    private Question text(int t, int i) {
        return new Question("text(" + t + ", " + i + ")", b -> b.text(t, i), model.text(t, i));
    }

    private Question scope(int i) {
        return new Question("scope(" + i + ")", b -> b.scope(i), model.scope(i));
    }

    private Question clause(int i, int k) {
        return new Question("clause(" + i + ", " + k + ")", b -> b.clause(i, k),
                model.clause(i, k));
    }

    private Bench replayed() {
        Bench other = new Bench();
        for (ToIntFunction<Bench> call : made) {
            Bench.outcome(() -> call.applyAsInt(other));
        }
        return other;
    }
}
