/** Promise 16: instance, with putting a term for a variable. */
public final class InstanceTest {
    public static void main(String[] args) {
        put();
        notFree();
        caught();
        notCaught();
        wrongForms();
        joinedOnce();
        orderOfNewTerms();
        tooDeepAndNoRoom();
        sharedParts();
        farBeyondTheRoom();
        Bench.end();
    }

    /** a, b are numbers; c takes two of them to a truth, d one to a number; e is a truth. */
    private static Bench bench() {
        Bench b = new Bench();
        b.ledger.symbol(1, -1, -1);
        b.ledger.symbol(1, -1, -1);
        b.ledger.symbol(0, 1, 1);
        b.ledger.symbol(1, 1, -1);
        b.ledger.symbol(0, -1, -1);
        return b;
    }

    private static String instance(Bench b, String all, String value) {
        int t = b.read(all);
        int u = b.read(value);
        return b.entered(() -> b.ledger.instance(t, u));
    }

    private static void due(String all, String value, String put) {
        Bench.due(all + " with " + value, instance(bench(), all, value),
                put.equals(Bench.WRONG) ? put : "[(~ " + all + "), " + put + "]");
    }

    private static void put() {
        due("(! x (c x b))", "a", "(c a b)");
        due("(! x (c b x))", "(d b)", "(c b (d b))");
        due("(! y (c (d y) (+ y x)))", "1/2", "(c (d 1/2) (+ 1/2 x))");
        due("(! x (< (* 2 x) 1))", "3", "(< (* 2 3) 1)");
        due("(! x (~ (& (= x 1) (| e (< x x)))))", "a", "(~ (& (= a 1) (| e (< a a))))");
        due("(! x (c x b))", "x", "(c x b)");
        due("(! x (c x b))", "(d x)", "(c (d x) b)");
        due("(! z (! x (c x z)))", "y", "(! x (c x y))");
    }

    private static void notFree() {
        due("(! x e)", "a", "e");
        due("(! x (c y y))", "(d x)", "(c y y)");
        due("(! x (! x (c x b)))", "a", "(! x (c x b))");
        due("(! x (& (c x x) (! x (c x a))))", "b", "(& (c b b) (! x (c x a)))");
    }

    private static void caught() {
        due("(! x (! y (c x y)))", "y", Bench.WRONG);
        due("(! x (! y (c x b)))", "(d y)", Bench.WRONG);
        due("(! x (& (c x x) (~ (! z (! y (c x z))))))", "(+ a y)", Bench.WRONG);
        due("(! x (& (! y (c y x)) e))", "y", Bench.WRONG);
        due("(! x (! z (! y (c x b))))", "z", Bench.WRONG);
    }

    private static void notCaught() {
        due("(! x (& (c x x) (! y (c y y))))", "y", "(& (c y y) (! y (c y y)))");
        due("(! x (! y (c x y)))", "z", "(! y (c z y))");
        due("(! x (! y (! x (c x y))))", "y", "(! y (! x (c x y)))");
        due("(! x (! y (c x y)))", "x", "(! y (c x y))");
        Bench b = new Bench();
        b.ledger.variable(0, 0);
        b.ledger.variable(1, 0);
        Bench.due("y is bound in the term that is put",
                instance(b, "(! x (! y (& x y)))", "(! y y)"),
                "[(~ (! x (! y (& x y)))), (! y (& (! y y) y))]");
        Bench.due("y is free in it", instance(b, "(! x (! y (& x y)))", "(& y (! y y))"),
                Bench.WRONG);
    }

    private static void wrongForms() {
        Bench b = bench();
        int t = b.read("(! x (c x b))");
        int a = b.read("a");
        int e = b.read("e");
        int not = b.read("(~ (! x (c x b)))");
        int part = b.read("(c x b)");
        String state = b.state();
        Bench.due("a truth for a number", Bench.outcome(() -> b.ledger.instance(t, e)),
                Bench.WRONG);
        Bench.due("no !", Bench.outcome(() -> b.ledger.instance(e, a)), Bench.WRONG);
        Bench.due("an opposite", Bench.outcome(() -> b.ledger.instance(not, a)), Bench.WRONG);
        Bench.due("a part", Bench.outcome(() -> b.ledger.instance(part, a)), Bench.WRONG);
        Bench.due("no t", Bench.outcome(() -> b.ledger.instance(99, a)), Bench.MISSING);
        Bench.due("no u", Bench.outcome(() -> b.ledger.instance(e, -1)), Bench.MISSING);
        Bench.due("nothing has changed", b.state(), state);
        int bare = b.read("(! x e)");
        Bench.due("the sort counts though x is not free",
                Bench.outcome(() -> b.ledger.instance(bare, e)), Bench.WRONG);
    }

    private static void joinedOnce() {
        Bench b = new Bench();
        b.ledger.variable(0, 0);
        Bench.due("p is the opposite of t", instance(b, "(! x x)", "(~ (! x x))"),
                "[(~ (! x x))]");
    }

    private static void orderOfNewTerms() {
        Bench b = bench();
        int t = b.read("(! x (& (c x (d x)) (c (d x) (+ x 1))))");
        int a = b.read("a");
        b.ledger.instance(t, a);
        String[] made = {"(~ (! x (& (c x (d x)) (c (d x) (+ x 1)))))", "(d a)", "(c a (d a))",
            "(+ a 1)", "(c (d a) (+ a 1))", "(& (c a (d a)) (c (d a) (+ a 1)))"};
        for (int i = 0; i < made.length; i++) {
            Bench.due("made", b.text(a + 1 + i), made[i]);
        }
        Bench.due("no more", b.termCount(), a + 1 + made.length);
    }

    private static void tooDeepAndNoRoom() {
        Bench b = bench();
        String deep = "(d ".repeat(9) + "a" + ")".repeat(9);
        int u = b.read(deep);
        int fits = b.read("(! x (= x 1))");
        int not = b.read("(! x (= (d (d x)) 1))");
        int caught = b.read("(! x (! y (= (d (d x)) y)))");
        int v = b.read("(+ y " + deep + ")");
        Bench.due("depth 11", b.ledger.instance(fits, u), 0);
        int before = b.termCount();
        Bench.due("depth 13", Bench.outcome(() -> b.ledger.instance(not, u)), Bench.TOO_GREAT);
        Bench.due("caught is told first", Bench.outcome(() -> b.ledger.instance(caught, v)),
                Bench.WRONG);
        Bench.due("nothing is made", b.termCount(), before);
        for (int i = 2; b.termCount() < 98; i++) {
            b.read(String.valueOf(i));
        }
        int three = b.read("3");
        int z = b.read("(! x (c x (d x)))");
        Bench.due("no room for terms", b.termCount() > 98
                ? Bench.outcome(() -> b.ledger.instance(z, three)) : "room", Bench.NO_ROOM);
    }

    /** Which exception is due hangs on a part that comes after more terms than there is room for. */
    private static void farBeyondTheRoom() {
        Bench b = bench();
        int u = b.read("(d ".repeat(5) + "a" + ")".repeat(5));
        int small = b.read("a");
        String many = "(= x x)";
        for (int i = 1; i <= 5; i++) {
            many = "(& " + many + " (c (+ x " + i + ") x))";
        }
        int t = b.read("(! x " + many + ")");
        for (int i = 20; b.termCount() < 100; i++) {
            b.read(String.valueOf(i));
        }
        Bench.due("too deep", Bench.outcome(() -> b.ledger.instance(t, u)), Bench.TOO_GREAT);
        Bench.due("no room", Bench.outcome(() -> b.ledger.instance(t, small)), Bench.NO_ROOM);
    }

    /** A term whose text is far longer than a draft, each part of it there once. */
    private static void sharedParts() {
        Bench b = new Bench();
        b.ledger.variable(0, 0);
        b.ledger.symbol(0, -1, -1);
        int t = b.read("(! x (& (& (& (& x x) (& x x)) (& (& x x) (& x x))) x))");
        int u = b.read("(& (& (& (& a a) (& a a)) (& (& a a) (& a a))) a)");
        int step = b.ledger.instance(t, u);
        int made = b.ledger.clause(step, 1);
        Bench.due("depth", b.ledger.look(made, 2), 9);
        Bench.due("text", b.text(made), b.text(b.ledger.look(t, 3)).replace("x", b.text(u)));
    }
}
