/** Promise 15, a sentence at a time: linear. What a sum is, is SumTest's matter. */
public final class LinearTest {
    public static void main(String[] args) {
        whichTruths();
        excesses();
        granting();
        wrongOnes();
        Bench.end();
    }

    private static void whichTruths() {
        Bench.holds("One to three truths (u and v may be -1 for none;", LinearTest::oneToThree);
        Bench.holds("it is IllegalArgumentException if u is and v is not;",
                LinearTest::thirdWithoutSecond);
        Bench.holds("other numbers below 0 are no terms;", LinearTest::numbersBelowZero);
        Bench.holds("there is no such term or no such step that stands.",
                LinearTest::noSuchTerms);
        Bench.holds("one told twice has both factors, and is joined once)",
                LinearTest::toldTwice);
        Bench.holds("one truth may be given more than once, each time with its factor",
                LinearTest::toldThrice);
        Bench.holds("The truths are joined in order.", LinearTest::joinedInOrder);
    }

    private static void excesses() {
        Bench.holds("(< p q) with a factor from 0 on, whose EXCESS, the sum of p with -1 times"
                + " that of q added, is above 0 if it does not hold;", LinearTest::excessOfLess);
        Bench.holds("(~ (< p q)) with a factor from 0 on, whose excess, the sum of q with -1 times"
                + " that of p added, is from 0 on if it does not hold;",
                LinearTest::excessOfNotLess);
        Bench.holds("(~ (= p q)) of numbers with any factor, whose excess is the sum of p with -1"
                + " times that of q added, 0 if it does not hold.", LinearTest::excessOfNotEqual);
    }

    private static void granting() {
        Bench.holds("Granted if the excesses times their factors, added in order to 0, leave no"
                + " atom", LinearTest::noAtomIsLeft);
        Bench.holds("and a constant that is below 0", LinearTest::constantBelowZero);
        Bench.holds("or 0 while a truth (< p q) has a factor above 0.",
                LinearTest::constantZero);
        Bench.holds("with all factors 0 it is not granted;", LinearTest::allFactorsZero);
        Bench.holds("sums are looked at with a factor 0, too;", LinearTest::sumsOfFactorZero);
        Bench.holds("if one is too great, it is not asked whether it is granted.",
                LinearTest::tooGreatBeforeGranted);
        Bench.holds("added in order to 0", LinearTest::eachCallBeginsAtZero);
    }

    private static void wrongOnes() {
        Bench.holds("IllegalArgumentException for other truths", LinearTest::otherTruths);
        Bench.holds("factors below 0 where they are not allowed", LinearTest::factorsBelowZero);
        Bench.holds("and factors that are not -99 .. 99", LinearTest::factorsOutside);
        Bench.holds("(those of no truth do not count;", LinearTest::factorsOfNoTruth);
    }

    /** a, b, c are numbers; d is a truth; e takes a number to a number; f is of sort 2. */
    private static Bench bench() {
        Bench b = new Bench().symbols(3, 1).symbols(1, 0);
        b.symbol(1, 1, -1);
        b.symbol(b.sort(), -1, -1);
        return b;
    }

    private static String[] of(String... texts) {
        return texts;
    }

    private static void due(String[] texts, String want, int... factors) {
        Bench b = bench();
        Bench.Call call = b.linearOf(texts, factors);
        int terms = b.termCount();
        Bench.due("linear " + String.join(", ", texts), b.entered(call), want);
        Bench.due("terms", b.termCount(), terms);
    }

    private static void granted(String[] texts, int... factors) {
        due(texts, "[" + String.join(", ", texts) + "]", factors);
    }

    private static void wrong(String[] texts, int... factors) {
        due(texts, Bench.WRONG, factors);
    }

    private static void oneToThree() {
        granted(of("(< a a)"), 1);
        granted(of("(< a b)", "(< b a)"), 1, 1);
        granted(of("(~ (< a b))", "(~ (< b c))", "(< a c)"), 1, 1, 1);
        granted(of("(< 1 2)", "(~ (< a b))", "(~ (= a c))"), 1, 0, 0);
        granted(of("(~ (< a b))", "(< 1 2)"), 0, 1);
        granted(of("(~ (< a b))", "(< b c)", "(< 1 2)"), 0, 0, 1);
    }

    private static void thirdWithoutSecond() {
        Bench b = bench();
        int t = b.read("(< 1 2)");
        int u = b.read("(< a b)");
        b.refuses("v is t", () -> b.linear(t, -1, t, 1, 1, 1), Bench.WRONG);
        b.refuses("v has factor 0", () -> b.linear(t, -1, u, 1, 0, 0), Bench.WRONG);
        b.enters(() -> b.linear(t, u, -1, 1, 0, 0), "[(< 1 2), (< a b)]");
    }

    private static void numbersBelowZero() {
        Bench b = bench();
        int t = b.read("(< 1 2)");
        for (int none : new int[] {-1, -2, Bench.LOWEST}) {
            b.refuses("t " + none, () -> b.linear(none, t, t, 1, 1, 1), Bench.MISSING);
        }
        for (int none : new int[] {-2, -3, Bench.LOWEST}) {
            b.refuses("u " + none, () -> b.linear(t, none, -1, 1, 1, 1), Bench.MISSING);
            b.refuses("u " + none, () -> b.linear(t, none, t, 1, 1, 1), Bench.MISSING);
            b.refuses("v " + none, () -> b.linear(t, t, none, 1, 1, 1), Bench.MISSING);
            b.refuses("v " + none, () -> b.linear(t, -1, none, 1, 1, 1), Bench.MISSING);
        }
        b.refuses("all none", () -> b.linear(-1, -1, -1, 1, 1, 1), Bench.MISSING);
    }

    private static void noSuchTerms() {
        Bench b = bench();
        int t = b.read("(< 1 2)");
        for (int none : new int[] {t + 1, 100, Bench.HIGHEST}) {
            b.refuses("t " + none, () -> b.linear(none, -1, -1, 1, 1, 1), Bench.MISSING);
            b.refuses("u " + none, () -> b.linear(t, none, -1, 1, 1, 1), Bench.MISSING);
            b.refuses("v " + none, () -> b.linear(t, t, none, 1, 1, 1), Bench.MISSING);
            b.refuses("v " + none + " without u", () -> b.linear(t, -1, none, 1, 1, 1),
                    Bench.MISSING);
            b.refuses("v " + none + " with factor 0", () -> b.linear(t, t, none, 1, 1, 0),
                    Bench.MISSING);
        }
    }

    private static void toldTwice() {
        Bench b = bench();
        int t = b.read("(~ (= a b))");
        int u = b.read("(< (* 3 a) (* 3 b))");
        String row = "[(~ (= a b)), (< (* 3 a) (* 3 b))]";
        b.enters(() -> b.linear(t, t, u, -1, -2, 1), row);
        b.enters(() -> b.linear(t, u, t, 2, 1, -5), row);
        b.enters(() -> b.linear(u, t, t, 1, -99, 96), "[(< (* 3 a) (* 3 b)), (~ (= a b))]");
        b.refuses("one of them is too many", () -> b.linear(t, t, u, -1, -3, 1), Bench.WRONG);
        b.refuses("the second alone", () -> b.linear(t, t, u, -1, -1, 1), Bench.WRONG);
        int same = b.read("(< a a)");
        b.enters(() -> b.linear(same, same, -1, 0, 1, 0), "[(< a a)]");
        b.enters(() -> b.linear(same, same, -1, 1, 0, 0), "[(< a a)]");
    }

    private static void toldThrice() {
        Bench b = bench();
        int t = b.read("(~ (= 1 2))");
        b.enters(() -> b.linear(t, t, t, 1, 1, -1), "[(~ (= 1 2))]");
        b.enters(() -> b.linear(t, t, t, 99, 99, 99), "[(~ (= 1 2))]");
        b.refuses("0 in all", () -> b.linear(t, t, t, 1, -2, 1), Bench.WRONG);
        b.refuses("below 0 in all", () -> b.linear(t, t, t, 1, -3, 1), Bench.WRONG);
    }

    private static void joinedInOrder() {
        granted(of("(< b a)", "(< a b)"), 1, 1);
        granted(of("(< a c)", "(~ (< b c))", "(~ (< a b))"), 1, 1, 1);
        granted(of("(~ (= a c))", "(< 1 2)", "(~ (< a b))"), 0, 1, 0);
    }

    private static void excessOfLess() {
        granted(of("(< 1 2)"), 1);
        granted(of("(< 1 2)"), 99);
        granted(of("(< 1 1)"), 1);
        wrong(of("(< 2 1)"), 1);
        granted(of("(< (+ a 1) (+ 2 a))"), 1);
        granted(of("(< 2 1)", "(< 1 2)"), 0, 1);
        granted(of("(< 2 1)", "(< 1 3)"), 1, 1);
    }

    private static void excessOfNotLess() {
        granted(of("(~ (< 2 1))"), 1);
        granted(of("(~ (< 2 1))"), 99);
        wrong(of("(~ (< 1 1))"), 1);
        wrong(of("(~ (< 1 2))"), 1);
        granted(of("(~ (< (+ a 1) b))", "(~ (< b a))"), 1, 1);
        granted(of("(~ (< 1 2))", "(< 1 2)"), 0, 1);
        granted(of("(~ (< (+ a 1) b))", "(< a b)"), 1, 1);
    }

    private static void excessOfNotEqual() {
        granted(of("(~ (= 1 2))"), 1);
        granted(of("(~ (= 1 2))"), 99);
        granted(of("(~ (= 2 1))"), -1);
        granted(of("(~ (= 2 1))"), -99);
        wrong(of("(~ (= 1 2))"), -1);
        wrong(of("(~ (= 2 1))"), 1);
        wrong(of("(~ (= 1 1))"), 1);
        wrong(of("(~ (= 1 1))"), -1);
        granted(of("(~ (= a b))", "(~ (= b c))", "(< a c)"), -1, -1, 1);
        granted(of("(~ (= (* 1/2 a) 1/3))", "(< a 2/3)"), -2, 1);
        wrong(of("(~ (= d d))"), 1);
        wrong(of("(~ (= f f))"), 1);
        wrong(of("(~ (= f f))", "(< 1 2)"), 0, 1);
    }

    private static void noAtomIsLeft() {
        wrong(of("(< a b)"), 1);
        wrong(of("(< a (+ a (* 1/99999 b)))"), 1);
        wrong(of("(~ (< a b))", "(< a b)"), 2, 1);
        wrong(of("(~ (< a b))", "(~ (< b a))"), 1, 1);
        wrong(of("(< (e a) (e b))"), 1);
        wrong(of("(< x y)", "(< y z)"), 1, 1);
        wrong(of("(< (+ a 1) 5)"), 1);
        granted(of("(~ (< (* 3 a) b))", "(< (* 6 a) (* 2 b))"), 2, 1);
        granted(of("(< a b)", "(< b c)", "(< c a)"), 7, 7, 7);
        granted(of("(< (* 99 a) b)", "(< b (* 99 a))"), 99, 99);
    }

    private static void constantBelowZero() {
        granted(of("(~ (< 2 1))"), 1);
        granted(of("(~ (< 1/31622 1/31623))"), 1);
        granted(of("(~ (< 1 0))", "(~ (= 0 1))"), 1, 1);
        wrong(of("(~ (< 1/31623 1/31622))"), 1);
        wrong(of("(< 1 0)", "(< 0 1/2)"), 1, 1);
        granted(of("(< 1 0)", "(< 0 1/2)"), 1, 3);
    }

    private static void constantZero() {
        granted(of("(< a a)"), 1);
        granted(of("(~ (< a b))", "(< a b)"), 1, 1);
        granted(of("(< 1 0)", "(< 0 1/2)"), 1, 2);
        wrong(of("(~ (< a a))"), 1);
        wrong(of("(~ (= a a))"), 5);
        wrong(of("(~ (< 1 1))", "(< 1 1)"), 1, 0);
        wrong(of("(< 1 1)", "(~ (= a a))"), 0, 1);
        granted(of("(~ (= a a))", "(~ (< b b))", "(< c c)"), 1, 1, 1);
        wrong(of("(~ (< a b))", "(~ (< b a))", "(< c c)"), 1, 1, 0);
    }

    private static void allFactorsZero() {
        wrong(of("(< 1 2)"), 0);
        wrong(of("(~ (< 2 1))"), 0);
        wrong(of("(~ (= 1 2))"), 0);
        wrong(of("(< a a)", "(< b b)", "(< 1 2)"), 0, 0, 0);
    }

    private static void sumsOfFactorZero() {
        String great = "(~ (= (* 99999 99999) b))";
        due(of("(< 1 2)", great), Bench.TOO_GREAT, 1, 0);
        due(of(great, "(< 1 2)"), Bench.TOO_GREAT, 0, 1);
        due(of("(< 1 2)", "(< 1 3)", "(< b (* 99999 (* 99999 a)))"), Bench.TOO_GREAT, 1, 1, 0);
        due(of("(< 1 2)", "(< (* -20000 50000) 1)"), Bench.TOO_GREAT, 1, 0);
    }

    private static void tooGreatBeforeGranted() {
        String great = "(< (* 99999 99999) b)";
        due(of(great), Bench.TOO_GREAT, 1);
        due(of(great), Bench.TOO_GREAT, 0);
        due(of("(< 2 1)", great), Bench.TOO_GREAT, 1, 0);
        due(of(great, great, great), Bench.TOO_GREAT, 0, 0, 0);
    }

    /** No call leaves anything for the next. */
    private static void eachCallBeginsAtZero() {
        Bench b = bench();
        int[] granted = {b.read("(< (+ a 1) (+ a 2))"), b.read("(< 1 2)"), b.read("(< b b)"),
            b.read("(~ (< 2 1))"), b.read("(~ (= 1 2))")};
        int[] not = {b.read("(~ (= a a))"), b.read("(~ (< 1 1))"), b.read("(< 2 1)"),
            b.read("(~ (< b b))"), b.read("(< a b)")};
        int great = b.read("(< (* 99999 99999) b)");
        int steps = 0;
        for (int t : granted) {
            for (int u : not) {
                Bench.answers("granted", () -> b.linear(t, -1, -1, 1, 0, 0), steps);
                Bench.due("not granted", Bench.outcome(() -> b.linear(u, -1, -1, 1, 0, 0)),
                        Bench.WRONG);
                steps++;
            }
            Bench.due("too great", Bench.outcome(() -> b.linear(great, -1, -1, 1, 0, 0)),
                    Bench.TOO_GREAT);
        }
    }

    private static void otherTruths() {
        String[] others = {"d", "(= 1 2)", "(= a a)", "(~ d)", "(~ (= d d))", "(~ (= f f))",
            "(~ (~ (< 1 2)))", "(~ (~ (= 1 2)))", "(& (< 1 2) (< 1 2))", "(! x (< 1 2))",
            "(~ (! x (< 1 2)))", "a", "x", "1", "(+ a 1)"};
        for (String other : others) {
            wrong(of(other), 1);
            wrong(of(other, "(< 1 2)"), 0, 1);
            wrong(of("(< 1 2)", other), 1, 0);
            wrong(of("(< 1 2)", "(< 1 3)", other), 1, 1, 0);
        }
    }

    private static void factorsBelowZero() {
        wrong(of("(< 1 2)"), -1);
        wrong(of("(~ (< 2 1))"), -1);
        wrong(of("(< 2 1)"), -1);
        wrong(of("(~ (< 1 2))"), -1);
        wrong(of("(< 1 2)", "(< 3 1)"), 1, -1);
        wrong(of("(< 1 2)", "(< 1 3)", "(~ (< 3 1))"), 1, 1, -1);
        granted(of("(< 1 2)", "(~ (= 3 1))"), 1, -1);
    }

    private static void factorsOutside() {
        for (int factor : new int[] {100, -100, 1000, Bench.LOWEST, Bench.HIGHEST}) {
            wrong(of("(~ (= " + (factor > 0 ? "1 2" : "2 1") + "))"), factor);
            wrong(of("(< 1 2)", "(~ (= a a))"), 1, factor);
            wrong(of("(< 1 2)", "(< 1 3)", "(~ (= a a))"), 1, 1, factor);
        }
        wrong(of("(< 1 2)"), 100);
        wrong(of("(~ (< 2 1))"), 100);
        wrong(of("(~ (< 2 1))"), Bench.HIGHEST);
        granted(of("(< 1 2)", "(~ (= a a))", "(~ (= b b))"), 99, -99, 99);
    }

    private static void factorsOfNoTruth() {
        Bench b = bench();
        int t = b.read("(< 1 2)");
        for (int factor : new int[] {100, -1, -100, Bench.LOWEST, Bench.HIGHEST}) {
            b.enters(() -> b.linear(t, -1, -1, 1, factor, factor), "[(< 1 2)]");
            b.enters(() -> b.linear(t, t, -1, 1, 1, factor), "[(< 1 2)]");
        }
        b.refuses("they make nothing granted", () -> b.linear(t, -1, -1, 0, 5, 5), Bench.WRONG);
    }
}
