/** Promise 16, and what "Terms" says of putting a term for a variable, a sentence at a time. */
public final class InstanceTest {
    private static final int[] NO_TERMS = {-1, 100, Bench.LOWEST, Bench.HIGHEST};

    public static void main(String[] args) {
        Bench.holds("the opposite of t, and p with u put for v (p itself, if v is not free in"
                + " it), are joined.", InstanceTest::put);
        Bench.holds("(p itself, if v is not free in it)", InstanceTest::notFreeAtAll);
        Bench.holds("FREE in a term are its variables, but in ! v t the variable v is not.",
                InstanceTest::freeVariables);
        Bench.holds("To PUT u for v in t is to put u for v wherever it is free;",
                InstanceTest::whereverItIsFree);
        Bench.holds("this can't be done when such a place is in a ! of a variable that is free in"
                + " u.", InstanceTest::caught);
        Bench.holds("IllegalArgumentException also if that can't be done.",
                InstanceTest::caughtChangesNothing);
        Bench.holds("when such a place is in a ! of a variable that is free in u.",
                InstanceTest::notCaught);
        Bench.holds("t is ! of a variable v and p", InstanceTest::noForAll);
        Bench.holds("and u of the sort of v", InstanceTest::otherSorts);
        Bench.holds("there is no such term or no such step that stands.", InstanceTest::noTerms);
        Bench.holds("are joined.", InstanceTest::joinedOnce);
        Bench.holds("Terms are numbered 0, 1, .. as they are made, parts before the whole, the"
                + " first part before the second;", InstanceTest::orderOfNewTerms);
        Bench.holds("ArithmeticException: a term would be too deep", InstanceTest::tooDeep);
        Bench.holds("more than 8 truths, 100 terms", InstanceTest::hundredTerms);
        Bench.holds("THROWN is, of what holds, the first in this order",
                InstanceTest::farBeyondTheRoom);
        Bench.holds("one that is there already is not made again.", InstanceTest::sharedParts);
        Bench.end();
    }

    /** a, b are numbers; c takes two of them to a truth, d one to a number; e is a truth. */
    private static Bench bench() {
        Bench b = new Bench().symbols(2, 1);
        b.symbol(0, 1, 1);
        b.symbol(1, 1, -1);
        return b.symbols(1, 0);
    }

    private static void becomes(Bench b, String all, String value, String put) {
        int t = b.read(all);
        int u = b.read(value);
        b.enters(() -> b.instance(t, u), "[(~ " + all + "), " + put + "]");
    }

    private static void becomes(String all, String value, String put) {
        becomes(bench(), all, value, put);
    }

    private static void cannot(Bench b, String all, String value) {
        int t = b.read(all);
        int u = b.read(value);
        b.refuses(all + " with " + value, () -> b.instance(t, u), Bench.WRONG);
    }

    private static void put() {
        becomes("(! x (c x b))", "a", "(c a b)");
        becomes("(! x (c b x))", "(d b)", "(c b (d b))");
        becomes("(! y (c (d y) (+ y x)))", "1/2", "(c (d 1/2) (+ 1/2 x))");
        becomes("(! z (< (* 2 z) 1))", "3", "(< (* 2 3) 1)");
        becomes("(! x (~ (& (= x 1) (| e (< x x)))))", "a",
                "(~ (& (= a 1) (| e (< a a))))");
        becomes("(! x (c x b))", "x", "(c x b)");
        becomes("(! x (c x b))", "(d x)", "(c (d x) b)");
    }

    private static void notFreeAtAll() {
        becomes("(! x e)", "a", "e");
        becomes("(! x (c y y))", "(d x)", "(c y y)");
        becomes("(! x (! x (c x b)))", "a", "(! x (c x b))");
        becomes("(! x (! y (c y y)))", "y", "(! y (c y y))");
        Bench b = bench();
        int t = b.read("(! x e)");
        int u = b.read("(+ a y)");
        int terms = b.termCount();
        b.instance(t, u);
        Bench.due("only the opposite is made", b.termCount(), terms + 1);
        Bench.due("p itself", b.clause(0, 1), b.look(t, 3));
    }

    private static void freeVariables() {
        becomes("(! x (& (c x x) (! x (c x a))))", "b", "(& (c b b) (! x (c x a)))");
        becomes("(! x (& (! x (c x a)) (c x x)))", "b", "(& (! x (c x a)) (c b b))");
        becomes("(! x (! y (& (c x y) (! x (c x y)))))", "a",
                "(! y (& (c a y) (! x (c x y))))");
        Bench b = new Bench();
        b.variable(0, 0);
        b.variable(1, 0);
        becomes(b, "(! x (! y (& x y)))", "(! y y)", "(! y (& (! y y) y))");
        becomes(b, "(! x (! y (| x y)))", "(! x x)", "(! y (| (! x x) y))");
    }

    private static void whereverItIsFree() {
        becomes("(! x (& (& (c x y) (c y x)) (~ (! z (c (d x) (+ z x))))))", "(d a)",
                "(& (& (c (d a) y) (c y (d a))) (~ (! z (c (d (d a)) (+ z (d a))))))");
        becomes("(! z (! x (c x z)))", "y", "(! x (c x y))");
        becomes("(! z (! x (! y (c (+ x y) z))))", "a", "(! x (! y (c (+ x y) a)))");
        becomes("(! x (= (+ x (* 2 x)) (* 3 x)))", "(+ y 1)",
                "(= (+ (+ y 1) (* 2 (+ y 1))) (* 3 (+ y 1)))");
        becomes("(! x " + Bench.nots(8, "(= x 1)") + ")", "a", Bench.nots(8, "(= a 1)"));
        becomes("(! x " + "(& e ".repeat(8) + "(= 1 x)" + ")".repeat(9), "a",
                "(& e ".repeat(8) + "(= 1 a)" + ")".repeat(8));
        becomes("(! x (! y (! z (~ (~ (~ (c (d (d x)) y)))))))", "a",
                "(! y (! z (~ (~ (~ (c (d (d a)) y))))))");
    }

    private static void caught() {
        Bench b = bench();
        cannot(b, "(! x (! y (c x y)))", "y");
        cannot(b, "(! x (! y (c x b)))", "(d y)");
        cannot(b, "(! x (& (c x x) (~ (! z (! y (c x z))))))", "(+ a y)");
        cannot(b, "(! x (& (c x x) (~ (! z (! y (c x z))))))", "z");
        cannot(b, "(! x (& (! y (c y x)) e))", "y");
        cannot(b, "(! x (& e (! y (c y x))))", "y");
        cannot(b, "(! x (! z (! y (c x b))))", "z");
        cannot(b, "(! x (! z (! y (c x b))))", "y");
        cannot(b, "(! z (! x (c x z)))", "(d (d (+ 1 x)))");
        Bench truths = new Bench();
        truths.variable(0, 0);
        truths.variable(1, 0);
        cannot(truths, "(! x (! y (& x y)))", "(& y (! y y))");
        cannot(truths, "(! x (! y (& x y)))", "(! x y)");
    }

    private static void caughtChangesNothing() {
        Bench b = bench();
        int t = b.read("(! x (& (c (d x) x) (! y (c x y))))");
        int u = b.read("(+ y 1)");
        String state = b.state();
        Bench.due("caught", Bench.outcome(() -> b.instance(t, u)), Bench.WRONG);
        Bench.due("state", b.state(), state);
        Bench.due("the next term", b.read("(d a)"), u + 2);
    }

    private static void notCaught() {
        becomes("(! x (& (c x x) (! y (c y y))))", "y", "(& (c y y) (! y (c y y)))");
        becomes("(! x (! y (c x y)))", "z", "(! y (c z y))");
        becomes("(! x (! y (! x (c x y))))", "y", "(! y (! x (c x y)))");
        becomes("(! x (! y (c x y)))", "x", "(! y (c x y))");
        becomes("(! x (! y (c x y)))", "(+ x z)", "(! y (c (+ x z) y))");
    }

    private static void noForAll() {
        Bench b = bench();
        int a = b.read("a");
        for (String text : new String[] {"e", "x", "a", "1", "(c x b)", "(~ (! x (c x b)))",
            "(& (! x e) e)", "(= x x)", "(< x 1)"}) {
            int t = b.read(text);
            b.refuses(text, () -> b.instance(t, a), Bench.WRONG);
        }
    }

    private static void otherSorts() {
        Bench b = bench();
        int two = b.sort();
        b.symbol(two, -1, -1);
        b.variable(1, two);
        b.variable(2, 0);
        cannot(b, "(! x (c x b))", "e");
        cannot(b, "(! x (c x b))", "f");
        cannot(b, "(! x e)", "e");
        cannot(b, "(! x e)", "y");
        cannot(b, "(! y (= y f))", "a");
        cannot(b, "(! y e)", "x");
        cannot(b, "(! z (~ z))", "1");
        becomes(b, "(! y (= y f))", "f", "(= f f)");
        becomes(b, "(! z (~ z))", "(! z e)", "(~ (! z e))");
    }

    private static void noTerms() {
        Bench b = bench();
        int t = b.read("(! x (c x b))");
        int a = b.read("a");
        b.refuses("t", () -> b.instance(a + 1, a), Bench.MISSING);
        b.refuses("u", () -> b.instance(t, a + 1), Bench.MISSING);
        for (int none : NO_TERMS) {
            b.refuses("t " + none, () -> b.instance(none, a), Bench.MISSING);
            b.refuses("u " + none, () -> b.instance(t, none), Bench.MISSING);
        }
    }

    private static void joinedOnce() {
        Bench b = new Bench();
        b.variable(0, 0);
        int t = b.read("(! x x)");
        int u = b.read("(~ (! x x))");
        b.enters(() -> b.instance(t, u), "[(~ (! x x))]");
        b.enters(() -> b.instance(t, t), "[(~ (! x x)), (! x x)]");
    }

    private static void orderOfNewTerms() {
        Bench b = bench();
        int t = b.read("(! x (& (c x (d x)) (c (d x) (+ x 1))))");
        int a = b.read("a");
        b.instance(t, a);
        String[] made = {"(~ (! x (& (c x (d x)) (c (d x) (+ x 1)))))", "(d a)", "(c a (d a))",
            "(+ a 1)", "(c (d a) (+ a 1))", "(& (c a (d a)) (c (d a) (+ a 1)))"};
        for (int i = 0; i < made.length; i++) {
            Bench.due("made", b.textOf(a + 1 + i), made[i]);
        }
        Bench.due("terms", b.termCount(), a + 1 + made.length);
    }

    private static void tooDeep() {
        Bench b = bench();
        int nine = b.read("(d ".repeat(8) + "a" + ")".repeat(8));
        int ten = b.read("(d ".repeat(9) + "a" + ")".repeat(9));
        int t = b.read("(! x (= (d (d x)) 1))");
        Bench.answers("12 by u", () -> b.instance(t, nine), 0);
        Bench.due("depth", b.look(b.clause(0, 1), 2), 12);
        b.refuses("13 by u", () -> b.instance(t, ten), Bench.TOO_GREAT);
        int eleven = b.read("(! x " + Bench.nots(9, "e") + ")");
        int twelve = b.read("(! x " + Bench.nots(10, "e") + ")");
        int a = b.read("a");
        Bench.answers("an opposite of 12", () -> b.instance(eleven, a), 1);
        b.refuses("an opposite of 13", () -> b.instance(twelve, a), Bench.TOO_GREAT);
    }

    private static void hundredTerms() {
        Bench b = bench();
        int t = b.read("(! x (c x (d x)))");
        int a = b.read("a");
        int u = b.read("b");
        b.fillTermsTo(97);
        b.enters(() -> b.instance(t, a), "[(~ (! x (c x (d x)))), (c a (d a))]");
        Bench.due("terms", b.termCount(), 100);
        b.refuses("two more", () -> b.instance(t, u), Bench.NO_ROOM);
        b.enters(() -> b.instance(t, a), "[(~ (! x (c x (d x)))), (c a (d a))]");
        Bench less = bench();
        int p = less.read("(! x (c x (d x)))");
        int q = less.read("a");
        less.fillTermsTo(98);
        less.refuses("three more", () -> less.instance(p, q), Bench.NO_ROOM);
    }

    /** What is due hangs on a part that comes after more terms than there is room for. */
    private static void farBeyondTheRoom() {
        Bench b = bench();
        int u = b.read("(d ".repeat(5) + "a" + ")".repeat(5));
        int small = b.read("a");
        int y = b.read("y");
        String many = "(= x x)";
        for (int i = 1; i <= 5; i++) {
            many = "(& " + many + " (c (+ x " + i + ") x))";
        }
        int t = b.read("(! x " + many + ")");
        int last = b.read("(! x (& (c (d x) (+ x x)) (! y (c x y))))");
        b.fillTermsTo(100);
        b.refuses("too deep", () -> b.instance(t, u), Bench.TOO_GREAT);
        b.refuses("no room", () -> b.instance(t, small), Bench.NO_ROOM);
        b.refuses("can't be done", () -> b.instance(last, y), Bench.WRONG);
    }

    /** A term whose text is far longer than a draft, each part of it there once. */
    private static void sharedParts() {
        Bench b = new Bench().symbols(1, 0);
        b.variable(0, 0);
        int t = b.read("(! x (& (& (& (& x x) (& x x)) (& (& x x) (& x x))) x))");
        int u = b.read("(& (& (& a a) (& a a)) a)");
        int terms = b.termCount();
        int step = b.instance(t, u);
        int made = b.clause(step, 1);
        Bench.due("the opposite, and one for each part that x is free in", b.termCount(),
                terms + 5);
        Bench.due("depth", b.look(made, 2), 8);
        Bench.due("length", b.text(made, -1), 9 * 25 + 8 * 5);
        Bench.due("its second part", b.look(made, 4), u);
    }
}
