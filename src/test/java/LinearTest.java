/** Promise 15: linear, with the sums of numbers. */
public final class LinearTest {
    public static void main(String[] args) {
        granted();
        notGranted();
        formsAndFactors();
        noneAndMissing();
        toldTwice();
        tooGreat();
        justNotTooGreat();
        zeroFactorsAreLookedAt();
        noRoom();
        Bench.end();
    }

    /** a, b, c are numbers; d is a truth; e takes a number to a number. */
    private static Bench bench() {
        Bench b = new Bench();
        for (int i = 0; i < 3; i++) {
            b.ledger.symbol(1, -1, -1);
        }
        b.ledger.symbol(0, -1, -1);
        b.ledger.symbol(1, 1, -1);
        return b;
    }

    private static String linear(Bench b, String[] texts, int... factors) {
        int[] t = {-1, -1, -1};
        for (int i = 0; i < texts.length; i++) {
            t[i] = b.read(texts[i]);
        }
        return b.entered(() -> b.ledger.linear(t[0], t[1], t[2], factors[0],
                factors.length > 1 ? factors[1] : 0, factors.length > 2 ? factors[2] : 0));
    }

    private static void due(String[] texts, boolean granted, int... factors) {
        String all = String.join(", ", texts);
        Bench.due("linear " + all, linear(bench(), texts, factors),
                granted ? "[" + all + "]" : Bench.WRONG);
    }

    private static String[] of(String... texts) {
        return texts;
    }

    private static void granted() {
        due(of("(< a a)"), true, 1);
        due(of("(< 1 2)"), true, 99);
        due(of("(~ (< 2 1))"), true, 1);
        due(of("(~ (= 1 2))"), true, 1);
        due(of("(~ (= 2 1))"), true, -1);
        due(of("(< a b)", "(< b a)"), true, 1, 1);
        due(of("(~ (< a b))", "(< a b)"), true, 1, 1);
        due(of("(~ (< (+ a 1) b))", "(< a b)"), true, 1, 1);
        due(of("(~ (< (+ a 1) b))", "(~ (< b a))"), true, 1, 1);
        due(of("(~ (< a b))", "(~ (< b c))", "(< a c)"), true, 1, 1, 1);
        due(of("(~ (= a b))", "(~ (= b c))", "(< a c)"), true, -1, -1, 1);
        due(of("(~ (= (* 1/2 a) 1/3))", "(< a 2/3)"), true, -2, 1);
        due(of("(~ (< (* 3 a) b))", "(< (* 6 a) (* 2 b))"), true, 2, 1);
        due(of("(< (* 0 a) 0)"), true, 1);
        due(of("(< (e a) (e a))"), true, 1);
        due(of("(< (+ x (* 2 y)) (+ y (+ x y)))"), true, 5);
        due(of("(< 1 2)", "(~ (< a b))"), true, 1, 0);
        due(of("(~ (< a b))", "(< 1 2)"), true, 0, 1);
    }

    private static void notGranted() {
        due(of("(< a b)"), false, 1);
        due(of("(< 2 1)"), false, 1);
        due(of("(~ (< 1 2))"), false, 1);
        due(of("(~ (< 1 1))"), false, 1);
        due(of("(~ (= 1 1))"), false, 5);
        due(of("(~ (= 1 2))"), false, -1);
        due(of("(~ (= 1 2))"), false, 0);
        due(of("(< 1 2)"), false, 0);
        due(of("(< a a)"), false, 0);
        due(of("(~ (< a b))", "(~ (< b a))"), false, 1, 1);
        due(of("(~ (< 1 1))", "(< 1 1)"), false, 1, 0);
        due(of("(~ (< a b))", "(< a b)"), false, 2, 1);
        due(of("(< (e a) (e b))"), false, 1);
        due(of("(< x y)", "(< y z)"), false, 1, 1);
    }

    private static void formsAndFactors() {
        due(of("d"), false, 1);
        due(of("(= 1 2)"), false, 1);
        due(of("(~ d)"), false, 1);
        due(of("(~ (= d d))"), false, 1);
        due(of("(~ (~ (< 1 2)))"), false, 1);
        due(of("(< 1 2)", "d"), false, 1, 0);
        due(of("(< 1 2)", "(< 1 2)", "a"), false, 1, 1, 0);
        due(of("(< 1 2)"), false, -1);
        due(of("(~ (< 2 1))"), false, -1);
        due(of("(< 1 2)"), false, 100);
        due(of("(~ (= 2 1))"), true, -99);
        due(of("(~ (= 2 1))"), false, -100);
        due(of("(~ (= 1 2))"), true, 99);
        due(of("(~ (= 1 2))"), false, 100);
        due(of("(< 1 2)", "(< 1 2)"), false, 1, Integer.MIN_VALUE);
    }

    private static void noneAndMissing() {
        Bench b = bench();
        int t = b.read("(< 1 2)");
        int d = b.read("d");
        Bench.due("factors of none", b.entered(() -> b.ledger.linear(t, -1, -1, 1, 500, -7)),
                "[(< 1 2)]");
        Bench.due("t none", Bench.outcome(() -> b.ledger.linear(-1, t, t, 1, 1, 1)),
                Bench.MISSING);
        Bench.due("u none, v not", Bench.outcome(() -> b.ledger.linear(t, -1, t, 1, 1, 1)),
                Bench.WRONG);
        Bench.due("u none, v missing", Bench.outcome(() -> b.ledger.linear(t, -1, 99, 1, 1, 1)),
                Bench.MISSING);
        Bench.due("u -2", Bench.outcome(() -> b.ledger.linear(t, -2, -1, 1, 1, 1)),
                Bench.MISSING);
        Bench.due("v -2", Bench.outcome(() -> b.ledger.linear(d, t, -2, 1, 1, 1)),
                Bench.MISSING);
        Bench.due("t beyond", Bench.outcome(() -> b.ledger.linear(99, t, -1, 1, 1, 1)),
                Bench.MISSING);
    }

    private static void toldTwice() {
        Bench b = bench();
        int t = b.read("(~ (= a b))");
        int u = b.read("(< (* 3 a) (* 3 b))");
        Bench.due("both factors count", b.entered(() -> b.ledger.linear(t, t, u, -1, -2, 1)),
                "[(~ (= a b)), (< (* 3 a) (* 3 b))]");
        Bench.due("not one of them", b.entered(() -> b.ledger.linear(t, t, u, -1, -3, 1)),
                Bench.WRONG);
    }

    private static void tooGreat() {
        String deep = "(* 99999 (* 99999 a))";
        Bench.due("coefficient", linear(bench(), of("(< " + deep + " b)"), 1), Bench.TOO_GREAT);
        Bench.due("on the right", linear(bench(), of("(< b " + deep + ")"), 1), Bench.TOO_GREAT);
        Bench.due("below 0", linear(bench(), of("(< (* -99999 (* 99999 a)) b)"), 1),
                Bench.TOO_GREAT);
        Bench.due("denominator", linear(bench(), of("(< (* 1/99999 (* 1/99999 a)) b)"), 1),
                Bench.TOO_GREAT);
        Bench.due("denominator of a sum", linear(bench(),
                of("(< (+ 1/99999 1/99998) (* 1/2 b))"), 1), Bench.TOO_GREAT);
        Bench.due("what cancels later", linear(bench(), of("(< (* 0 " + deep + ") 1)"), 1),
                Bench.TOO_GREAT);
        Bench.due("constant", linear(bench(), of("(< (* 99999 99999) b)"), 1), Bench.TOO_GREAT);
        Bench.due("constant", linear(bench(), of("(< 0 (* -25000 50000))"), 1),
                Bench.TOO_GREAT);
        Bench.due("the same sums on both sides",
                linear(bench(), of("(< " + deep + " " + deep + ")"), 1), Bench.TOO_GREAT);
        Bench.due("a form that is wrong comes first",
                linear(bench(), of("(< " + deep + " b)", "d"), 1, 1), Bench.WRONG);
        Bench.due("a factor that is wrong comes first",
                linear(bench(), of("(< " + deep + " b)"), -1), Bench.WRONG);
    }

    private static void justNotTooGreat() {
        // 10^9 itself is not too great; the difference and the multiple of it are.
        Bench.due("10^9", linear(bench(), of("(< (* -20000 50000) 0)"), 1),
                "[(< (* -20000 50000) 0)]");
        Bench.due("10^9 on the right", linear(bench(), of("(< 0 (* 20000 50000))"), 1),
                "[(< 0 (* 20000 50000))]");
        Bench.due("10^9 below", linear(bench(), of("(< (* 1/20000 (* 1/50000 -1)) 0)"), 1),
                "[(< (* 1/20000 (* 1/50000 -1)) 0)]");
        Bench.due("the excess", linear(bench(), of("(< (* -20000 50000) 1)"), 1),
                Bench.TOO_GREAT);
        Bench.due("the excess times the factor",
                linear(bench(), of("(< (* -20000 50000) 0)"), 2), Bench.TOO_GREAT);
        Bench.due("all added", linear(bench(),
                of("(< (* -20000 50000) 0)", "(< 0 1/2)"), 1, 2), Bench.TOO_GREAT);
        Bench.due("a multiple, though not all added", linear(bench(),
                of("(< (* -20000 50000) 0)", "(< (* 10000 50000) 0)"), 1, 3), Bench.TOO_GREAT);
        Bench.due("added in order", linear(bench(),
                of("(< (* -20000 50000) 0)", "(< 0 1)", "(< 1 0)"), 1, 1, 1), Bench.TOO_GREAT);
        Bench.due("in another order", linear(bench(),
                of("(< (* -20000 50000) 0)", "(< 1 0)", "(< 0 1)"), 1, 1, 1),
                "[(< (* -20000 50000) 0), (< 1 0), (< 0 1)]");
        Bench.due("lowest terms count", linear(bench(),
                of("(< (* 1/99999 (* 99999 a)) a)"), 99), "[(< (* 1/99999 (* 99999 a)) a)]");
    }

    private static void zeroFactorsAreLookedAt() {
        Bench b = bench();
        int great = b.read("(~ (= (* 99999 99999) b))");
        int fine = b.read("(< 1 2)");
        int not = b.read("(< 2 1)");
        Bench.due("factor 0", Bench.outcome(() -> b.ledger.linear(fine, great, -1, 1, 0, 0)),
                Bench.TOO_GREAT);
        Bench.due("it is not asked whether it is granted",
                Bench.outcome(() -> b.ledger.linear(not, great, -1, 1, 0, 0)), Bench.TOO_GREAT);
        Bench.due("again", Bench.outcome(() -> b.ledger.linear(great, -1, -1, 0, 0, 0)),
                Bench.TOO_GREAT);
        Bench.due("without it", Bench.outcome(() -> b.ledger.linear(fine, -1, -1, 1, 0, 0)), 0);
    }

    private static void noRoom() {
        Bench b = bench();
        int t = b.read("(< 1 2)");
        int great = b.read("(< (* 99999 99999) b)");
        int not = b.read("(< 2 1)");
        for (int i = 0; i < 60; i++) {
            b.ledger.linear(t, -1, -1, 1, 0, 0);
        }
        Bench.due("61", Bench.outcome(() -> b.ledger.linear(t, -1, -1, 1, 0, 0)), Bench.NO_ROOM);
        Bench.due("too great", Bench.outcome(() -> b.ledger.linear(great, -1, -1, 1, 0, 0)),
                Bench.TOO_GREAT);
        Bench.due("not granted", Bench.outcome(() -> b.ledger.linear(not, -1, -1, 1, 0, 0)),
                Bench.WRONG);
    }
}
