/** What "Terms" says of sums, a sentence at a time, as linear() shows it. */
public final class SumTest {
    public static void main(String[] args) {
        Bench.holds("ATOMS (numbers of kind 0 or 1)", SumTest::atoms);
        Bench.holds("Of an atom: 1 times it; of a constant: that;", SumTest::atomsAndConstants);
        Bench.holds("of +: the second's added to the first's;", SumTest::plus);
        Bench.holds("of *: the second's, each multiplied by the constant.", SumTest::times);
        Bench.holds("in it or in one that it is worked out of", SumTest::deepSums);
        Bench.holds("It is exact.", SumTest::exact);
        Bench.holds("has p below -10^9 or above 10^9 or q above 10^9.",
                SumTest::constantsAtTheLimit);
        Bench.holds("has p below -10^9 or above 10^9 or q above 10^9.",
                SumTest::coefficientsAtTheLimit);
        Bench.holds("in lowest terms", SumTest::lowestTerms);
        Bench.holds("in it or in one that it is worked out of", SumTest::workedOutOf);
        Bench.holds("the sum of p with -1 times that of q added", SumTest::excessAtTheLimit);
        Bench.holds("the excesses times their factors", SumTest::multiplesAtTheLimit);
        Bench.holds("added in order to 0", SumTest::addedInOrder);
        Bench.end();
    }

    // 19019 * 52579 is 10^9 + 1, 20000 * 50000 is 10^9.
    private static final String MOST = "(* 20000 50000)";
    private static final String LEAST = "(* -20000 50000)";
    private static final String ABOVE = "(* 19019 52579)";
    private static final String BELOW = "(* -19019 52579)";

    /** a and b are numbers, c takes one to one, d two. */
    private static Bench bench() {
        Bench b = new Bench().symbols(2, 1);
        b.symbol(1, 1, -1);
        b.symbol(1, 1, 1);
        return b;
    }

    private static String[] of(String... texts) {
        return texts;
    }

    private static String linear(String[] texts, int... factors) {
        return Bench.outcome(bench().linearOf(texts, factors));
    }

    private static void granted(String[] texts, int... factors) {
        Bench.due(String.join(", ", texts), linear(texts, factors), 0);
    }

    private static void wrong(String[] texts, int... factors) {
        Bench.due(String.join(", ", texts), linear(texts, factors), Bench.WRONG);
    }

    private static void tooGreat(String[] texts, int... factors) {
        Bench.due(String.join(", ", texts), linear(texts, factors), Bench.TOO_GREAT);
    }

    /** The two numbers have one sum: neither is less by what the sums tell. */
    private static void equal(String p, String q) {
        granted(of("(< " + p + " " + q + ")"), 1);
        granted(of("(< " + q + " " + p + ")"), 1);
        wrong(of("(~ (< " + p + " " + q + "))"), 1);
        wrong(of("(~ (= " + p + " " + q + "))"), 1);
        wrong(of("(~ (= " + p + " " + q + "))"), -1);
    }

    private static void differ(String p, String q) {
        wrong(of("(< " + p + " " + q + ")", "(< " + q + " " + p + ")"), 2, 1);
        wrong(of("(< " + p + " " + q + ")", "(< " + q + " " + p + ")"), 1, 2);
    }

    private static void atoms() {
        for (String atom : of("a", "x", "(c a)", "(c (c x))", "(d a b)", "(c (+ 1 2))")) {
            equal(atom, atom);
            differ(atom, "b");
            differ(atom, "0");
        }
        differ("(c a)", "(c b)");
        differ("(d a b)", "(d b a)");
        differ("(c 3)", "(c (+ 1 2))");
        differ("x", "y");
        differ("a", "x");
        differ("a", "(c a)");
    }

    private static void atomsAndConstants() {
        equal("a", "(* 1 a)");
        equal("(+ a 0)", "a");
        equal("-1/2", "(* -1/2 1)");
        granted(of("(< 1/2 2/3)"), 1);
        wrong(of("(< 2/3 1/2)"), 1);
        granted(of("(< -1 0)"), 1);
        granted(of("(< a (+ a 1/99999))"), 1);
        wrong(of("(< (+ a 1/99999) a)"), 1);
    }

    private static void plus() {
        equal("(+ a b)", "(+ b a)");
        equal("(+ (+ a b) x)", "(+ a (+ x b))");
        equal("(+ 1/2 1/3)", "5/6");
        equal("(+ a a)", "(* 2 a)");
        equal("(+ 1 (+ a -1))", "a");
        equal("(+ (* 2 a) (* -2 a))", "0");
        equal("(+ (+ a 1) (+ a 1))", "(+ (* 2 a) 2)");
        differ("(+ a b)", "(+ a a)");
    }

    private static void times() {
        equal("(* 2 (+ a (* 3 b)))", "(+ (* 6 b) (+ a a))");
        equal("(* 0 a)", "0");
        equal("(* 0 (+ a 1))", "(* 0 b)");
        equal("(* -1/2 (+ a 4))", "(+ (* -1/2 a) -2)");
        equal("(* 2/3 (* 3/2 a))", "a");
        equal("(* 5 3)", "15");
        equal("(* 2 (* 3 (* 4 (+ a 1))))", "(+ 24 (* 24 a))");
    }

    /** A number in a truth of depth 12 is 11 deep; what lies at its bottom counts. */
    private static void deepSums() {
        String[][] pairs = {
            {"(+ a ".repeat(10) + "b" + ")".repeat(10), "(+ (* 10 a) b)"},
            {"(+ ".repeat(10) + "b" + " a)".repeat(10), "(+ (* 10 a) b)"},
            {"(* 2 ".repeat(10) + "b" + ")".repeat(10), "(* 1024 b)"},
            {"(* -1 (+ 1 ".repeat(5) + "a" + "))".repeat(5), "(+ -1 (* -1 a))"}};
        for (String[] pair : pairs) {
            granted(of("(< " + pair[0] + " " + pair[1] + ")"), 1);
            granted(of("(< " + pair[1] + " " + pair[0] + ")"), 1);
            wrong(of("(< " + pair[0] + " 0)"), 1);
        }
        tooGreat(of("(< 0 " + "(* 0 ".repeat(9) + ABOVE + ")".repeat(10)), 1);
    }

    private static void exact() {
        equal("(+ 1/10 1/5)", "3/10");
        equal("(* 1/3 (+ 1 (+ 1 1)))", "1");
        equal("(* 99999 (* 1/99998 (* 99998 (* 1/99999 a))))", "a");
        granted(of("(~ (< 1/31622 1/31623))"), 1);
        wrong(of("(~ (< 1/31623 1/31622))"), 1);
        wrong(of("(~ (= (+ 1/10 1/5) 3/10))"), -1);
    }

    private static void constantsAtTheLimit() {
        granted(of("(< 0 " + MOST + ")"), 1);
        granted(of("(< " + LEAST + " 0)"), 1);
        granted(of("(< (* -1/20000 1/50000) 0)"), 1);
        granted(of("(< 0 (* 1/20000 1/50000))"), 1);
        tooGreat(of("(< 0 " + ABOVE + ")"), 1);
        tooGreat(of("(< 0 " + BELOW + ")"), 1);
        tooGreat(of("(< " + BELOW + " 0)"), 1);
        tooGreat(of("(< " + ABOVE + " 0)"), 1);
        tooGreat(of("(< (* -1/19019 1/52579) 0)"), 1);
        tooGreat(of("(< 0 (* 1/19019 1/52579))"), 1);
        tooGreat(of("(< 0 (+ " + MOST + " 1))"), 1);
        granted(of("(< 0 (+ " + MOST + " -1))"), 1);
        tooGreat(of("(< 0 (+ " + LEAST + " -1))"), 1);
        wrong(of("(< 0 (+ " + LEAST + " 1))"), 1);
        tooGreat(of("(< 0 (+ " + MOST + " 1/2))"), 1);
        granted(of("(< 0 (+ 1/31622 1/31623))"), 1);
        tooGreat(of("(< 0 (+ 1/31623 1/31624))"), 1);
    }

    private static void coefficientsAtTheLimit() {
        equal("(* 20000 (* 50000 a))", "(* 50000 (* 20000 a))");
        equal("(* -20000 (* 50000 a))", "(* 50000 (* -20000 a))");
        equal("(* 1/20000 (* 1/50000 a))", "(* 1/50000 (* 1/20000 a))");
        tooGreat(of("(< (* 19019 (* 52579 a)) 0)"), 1);
        tooGreat(of("(< 0 (* 19019 (* 52579 a)))"), 1);
        tooGreat(of("(< 0 (* -19019 (* 52579 a)))"), 1);
        tooGreat(of("(< 0 (* 1/19019 (* 1/52579 a)))"), 1);
        tooGreat(of("(< 0 (+ a (* 20000 (* 50000 a))))"), 1);
        wrong(of("(< 0 (+ b (* 20000 (* 50000 a))))"), 1);
        tooGreat(of("(< 0 (* 52579 (+ b (* 19019 x))))"), 1);
        tooGreat(of("(< 0 (+ (* 1/31623 (c a)) (* 1/31624 (c a))))"), 1);
        wrong(of("(< 0 (+ (* 1/31623 (c a)) (* 1/31624 (c b))))"), 1);
    }

    private static void lowestTerms() {
        equal("(* 1/99999 (* 99999 a))", "a");
        equal("(* 2/50000 (* 1/25000 a))", "(* 1/25000 (* 1/25000 a))");
        equal("(+ 1/50000 1/40000)", "(* 9/20000 1/10)");
        equal("(* 1/2 (* 1/50000 (+ 1/20000 1/20000)))", "(* 1/20000 1/50000)");
        granted(of("(< 0 (* 38038/2 (* 1/19019 1)))"), 1);
    }

    private static void workedOutOf() {
        tooGreat(of("(< (* 0 " + ABOVE + ") 1)"), 1);
        tooGreat(of("(< 0 (* 1/52579 " + ABOVE + "))"), 1);
        tooGreat(of("(< 0 (+ 1 (* 0 (* 19019 (* 52579 a)))))"), 1);
        tooGreat(of("(< " + ABOVE + " " + ABOVE + ")"), 1);
        tooGreat(of("(< 0 (+ (+ " + MOST + " 1) -1))"), 1);
        granted(of("(< 0 (+ " + MOST + " (+ 1 -1)))"), 1);
        granted(of("(< 0 (+ (+ " + MOST + " -1) 1))"), 1);
        tooGreat(of("(< (+ (+ (* 20000 (* 50000 a)) a) (* -1 a)) 0)"), 1);
    }

    private static void excessAtTheLimit() {
        granted(of("(< " + LEAST + " 0)"), 1);
        tooGreat(of("(< " + LEAST + " 1)"), 1);
        granted(of("(< " + LEAST + " -1)"), 1);
        tooGreat(of("(< -1 " + MOST + ")"), 1);
        tooGreat(of("(~ (< 1 " + LEAST + "))"), 1);
        granted(of("(~ (< -1 " + LEAST + "))"), 1);
        tooGreat(of("(~ (= " + LEAST + " 1))"), 1);
        tooGreat(of("(~ (= 1 " + LEAST + "))"), -1);
        tooGreat(of("(< (* 20000 (* 50000 a)) (* -1 a))"), 1);
        wrong(of("(< (* 20000 (* 50000 a)) a)"), 1);
        tooGreat(of("(< 1/31623 1/31624)"), 1);
        granted(of("(< 1/31623 1/31622)"), 1);
        granted(of("(< " + MOST + " " + MOST + ")"), 1);
        granted(of("(< " + LEAST + " " + LEAST + ")"), 1);
    }

    private static void multiplesAtTheLimit() {
        String half = "(* -10000 50000)";
        granted(of("(< " + half + " 0)"), 2);
        tooGreat(of("(< (+ " + half + " -1) 0)"), 2);
        tooGreat(of("(< " + half + " 0)"), 3);
        tooGreat(of("(~ (= (+ " + half + " -1) 0))"), -2);
        tooGreat(of("(< (* 10000 (* 50000 a)) 0)"), 3);
        wrong(of("(< (* 10000 (* 50000 a)) 0)"), 2);
        granted(of("(< (* -1/20000 1/50000) 0)"), 99);
        tooGreat(of("(< " + LEAST + " 0)", "(< (* 10000 50000) 0)"), 1, 3);
    }

    private static void addedInOrder() {
        tooGreat(of("(< " + LEAST + " 0)", "(< 0 1)", "(< 1 0)"), 1, 1, 1);
        granted(of("(< " + LEAST + " 0)", "(< 1 0)", "(< 0 1)"), 1, 1, 1);
        granted(of("(< 1 0)", "(< " + LEAST + " 0)", "(< 0 1)"), 1, 1, 1);
        granted(of("(< 0 1)", "(< 1 0)", "(< " + LEAST + " 0)"), 1, 1, 1);
        tooGreat(of("(< " + LEAST + " 0)", "(< 0 1/2)"), 1, 2);
        tooGreat(of("(< 0 1/31623)", "(< 0 1/31624)"), 1, 1);
        granted(of("(< 0 1/31623)", "(< 0 1/31622)"), 1, 1);
        tooGreat(of("(< (* 20000 (* 50000 a)) 0)", "(< a 0)", "(< 0 a)"), 1, 1, 1);
        wrong(of("(< (* 20000 (* 50000 a)) 0)", "(< 0 a)", "(< a 0)"), 1, 1, 1);
    }
}
