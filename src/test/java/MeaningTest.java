/** Promise 10, a sentence at a time: meaning. */
public final class MeaningTest {
    public static void main(String[] args) {
        Bench.holds("& of p and q: which 0: o(t), p; 1: o(t), q; 2: t, o(p), o(q).",
                () -> means("(& a b)", "[(~ (& a b)), a]", "[(~ (& a b)), b]",
                        "[(& a b), (~ a), (~ b)]"));
        Bench.holds("| of p and q: 0: o(t), p, q; 1: t, o(p); 2: t, o(q).",
                () -> means("(| a b)", "[(~ (| a b)), a, b]", "[(| a b), (~ a)]",
                        "[(| a b), (~ b)]"));
        Bench.holds("= of truths p and q: 0: o(t), o(p), q; 1: o(t), p, o(q); 2: t, p, q; 3: t,"
                + " o(p), o(q).", () -> means("(= a b)", "[(~ (= a b)), (~ a), b]",
                        "[(~ (= a b)), a, (~ b)]", "[(= a b), a, b]", "[(= a b), (~ a), (~ b)]"));
        Bench.holds("to an empty row these are joined in order", MeaningTest::equalParts);
        Bench.holds("o(..) is the opposite", MeaningTest::opposites);
        Bench.holds("For other terms and numbers: IllegalArgumentException.",
                MeaningTest::otherTerms);
        Bench.holds("For other terms and numbers: IllegalArgumentException.",
                MeaningTest::otherNumbers);
        Bench.holds("there is no such term or no such step that stands.", MeaningTest::noTerm);
        Bench.holds("Terms are numbered 0, 1, .. as they are made", MeaningTest::orderOfNewTerms);
        Bench.holds("ArithmeticException: a term would be too deep", MeaningTest::tooDeep);
        Bench.holds("more than 8 truths, 100 terms", MeaningTest::hundredTerms);
        Bench.end();
    }

    /** a and b are truths, c is a number, d takes two truths to a truth. */
    private static Bench bench() {
        Bench b = new Bench().symbols(2, 0).symbols(1, 1);
        b.symbol(0, 0, 0);
        return b;
    }

    private static void means(String text, String... clauses) {
        Bench b = bench();
        int t = b.read(text);
        for (int i = 0; i < clauses.length; i++) {
            int which = i;
            b.enters(() -> b.meaning(t, which), clauses[i]);
        }
        b.refuses("which -1", () -> b.meaning(t, -1), Bench.WRONG);
        b.refuses("which beyond", () -> b.meaning(t, clauses.length), Bench.WRONG);
    }

    private static void equalParts() {
        means("(& a a)", "[(~ (& a a)), a]", "[(~ (& a a)), a]", "[(& a a), (~ a)]");
        means("(| a a)", "[(~ (| a a)), a]", "[(| a a), (~ a)]", "[(| a a), (~ a)]");
        means("(= a a)", "[(~ (= a a)), (~ a), a]", "[(~ (= a a)), a, (~ a)]", "[(= a a), a]",
                "[(= a a), (~ a)]");
        means("(= a (~ a))", "[(~ (= a (~ a))), (~ a)]", "[(~ (= a (~ a))), a]",
                "[(= a (~ a)), a, (~ a)]", "[(= a (~ a)), (~ a), a]");
        means("(= (~ a) a)", "[(~ (= (~ a) a)), a]", "[(~ (= (~ a) a)), (~ a)]",
                "[(= (~ a) a), (~ a), a]", "[(= (~ a) a), a, (~ a)]");
    }

    private static void opposites() {
        means("(& (~ a) (~ (~ b)))", "[(~ (& (~ a) (~ (~ b)))), (~ a)]",
                "[(~ (& (~ a) (~ (~ b)))), (~ (~ b))]", "[(& (~ a) (~ (~ b))), a, (~ b)]");
        means("(| (~ a) b)", "[(~ (| (~ a) b)), (~ a), b]", "[(| (~ a) b), a]",
                "[(| (~ a) b), (~ b)]");
        Bench b = bench();
        int t = b.read("(= (~ a) (~ b))");
        int terms = b.termCount();
        b.enters(() -> b.meaning(t, 3), "[(= (~ a) (~ b)), a, b]");
        Bench.due("no term is made", b.termCount(), terms);
    }

    private static void otherTerms() {
        Bench b = bench();
        b.sort();
        b.variable(0, 0);
        b.variable(1, 2);
        String[] texts = {"a", "(d a b)", "x", "1", "(+ c 1)", "(* 2 c)", "(= c 1)", "(= y y)",
            "(< c 1)", "(~ a)", "(~ (& a b))", "(! x a)", "(! x (& a b))"};
        for (String text : texts) {
            int t = b.read(text);
            b.refuses(text, () -> b.meaning(t, 0), Bench.WRONG);
        }
        Bench.outcome(() -> b.meaning(b.read("(= c 1)"), 2));
        Bench.due("no steps", b.stepCount(), 0);
    }

    private static void otherNumbers() {
        Bench b = bench();
        int and = b.read("(& a b)");
        int or = b.read("(| a b)");
        int equal = b.read("(= a b)");
        for (int which : new int[] {-1, 4, 5, Bench.LOWEST, Bench.HIGHEST}) {
            b.refuses("& " + which, () -> b.meaning(and, which), Bench.WRONG);
            b.refuses("| " + which, () -> b.meaning(or, which), Bench.WRONG);
            b.refuses("= " + which, () -> b.meaning(equal, which), Bench.WRONG);
        }
        b.refuses("& 3", () -> b.meaning(and, 3), Bench.WRONG);
        b.refuses("| 3", () -> b.meaning(or, 3), Bench.WRONG);
        b.enters(() -> b.meaning(equal, 3), "[(= a b), (~ a), (~ b)]");
    }

    private static void noTerm() {
        Bench b = bench();
        b.read("(& a b)");
        for (int none : new int[] {3, -1, 100, Bench.LOWEST, Bench.HIGHEST}) {
            b.refuses("term " + none, () -> b.meaning(none, 0), Bench.MISSING);
        }
    }

    private static void orderOfNewTerms() {
        Bench b = bench();
        int t = b.read("(= a b)");
        b.meaning(t, 1);
        Bench.due("first the opposite of t", b.textOf(t + 1), "(~ (= a b))");
        Bench.due("then that of b", b.textOf(t + 2), "(~ b)");
        b.meaning(t, 3);
        Bench.due("then that of a", b.textOf(t + 3), "(~ a)");
        Bench.due("terms", b.termCount(), t + 4);
        Bench c = bench();
        int and = c.read("(& b a)");
        c.meaning(and, 2);
        Bench.due("of p", c.textOf(and + 1), "(~ b)");
        Bench.due("of q", c.textOf(and + 2), "(~ a)");
    }

    private static void tooDeep() {
        Bench b = bench();
        int eleven = b.read("(& " + Bench.nots(9, "a") + " b)");
        int twelve = b.read("(& " + Bench.nots(10, "a") + " b)");
        Bench.due("depth", b.look(twelve, 2), 12);
        b.enters(() -> b.meaning(eleven, 1), "[(~ " + b.textOf(eleven) + "), b]");
        b.refuses("the opposite of t", () -> b.meaning(twelve, 0), Bench.TOO_GREAT);
        b.refuses("the opposite of t", () -> b.meaning(twelve, 1), Bench.TOO_GREAT);
        int terms = b.termCount();
        Bench.answers("t itself is not", () -> b.meaning(twelve, 2), 1);
        Bench.due("only (~ b) is made", b.termCount(), terms + 1);
    }

    private static void hundredTerms() {
        Bench b = bench();
        int t = b.read("(| a b)");
        b.fillTermsTo(99);
        b.enters(() -> b.meaning(t, 1), "[(| a b), (~ a)]");
        Bench.due("terms", b.termCount(), 100);
        b.refuses("one more", () -> b.meaning(t, 2), Bench.NO_ROOM);
        b.refuses("one more", () -> b.meaning(t, 0), Bench.NO_ROOM);
        b.enters(() -> b.meaning(t, 1), "[(| a b), (~ a)]");
    }
}
