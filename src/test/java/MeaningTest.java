/** Promise 10: meaning. */
public final class MeaningTest {
    public static void main(String[] args) {
        everyMeaning();
        opposites();
        equalParts();
        orderOfNewTerms();
        notGranted();
        tooDeep();
        Bench.end();
    }

    private static Bench bench() {
        Bench b = new Bench();
        b.ledger.symbol(0, -1, -1);
        b.ledger.symbol(0, -1, -1);
        b.ledger.symbol(1, -1, -1);
        return b;
    }

    private static void everyMeaning() {
        Bench b = bench();
        String[][] meanings = {
            {"(& a b)", "[(~ (& a b)), a]", "[(~ (& a b)), b]", "[(& a b), (~ a), (~ b)]"},
            {"(| a b)", "[(~ (| a b)), a, b]", "[(| a b), (~ a)]", "[(| a b), (~ b)]"},
            {"(= a b)", "[(~ (= a b)), (~ a), b]", "[(~ (= a b)), a, (~ b)]", "[(= a b), a, b]",
                "[(= a b), (~ a), (~ b)]"}};
        for (String[] m : meanings) {
            int t = b.read(m[0]);
            for (int i = 1; i < m.length; i++) {
                int which = i - 1;
                Bench.due(m[0] + " " + which, b.entered(() -> b.ledger.meaning(t, which)), m[i]);
            }
            Bench.due(m[0] + " -1", b.entered(() -> b.ledger.meaning(t, -1)), Bench.WRONG);
            Bench.due(m[0] + " beyond", b.entered(() -> b.ledger.meaning(t, m.length - 1)),
                    Bench.WRONG);
        }
    }

    private static void opposites() {
        Bench b = bench();
        int t = b.read("(& (~ a) (~ (~ b)))");
        Bench.due("the opposite of ~ goes inside", b.entered(() -> b.ledger.meaning(t, 2)),
                "[(& (~ a) (~ (~ b))), a, (~ b)]");
        int before = b.termCount();
        int u = b.read("(= (~ a) b)");
        Bench.due("=", b.entered(() -> b.ledger.meaning(u, 0)), "[(~ (= (~ a) b)), a, b]");
        Bench.due("new: the = and its opposite", b.termCount(), before + 2);
    }

    private static void equalParts() {
        Bench b = bench();
        int and = b.read("(& a a)");
        int equal = b.read("(= a a)");
        int or = b.read("(| a (~ a))");
        Bench.due("& 2", b.entered(() -> b.ledger.meaning(and, 2)), "[(& a a), (~ a)]");
        Bench.due("= 0", b.entered(() -> b.ledger.meaning(equal, 0)), "[(~ (= a a)), (~ a), a]");
        Bench.due("= 2", b.entered(() -> b.ledger.meaning(equal, 2)), "[(= a a), a]");
        Bench.due("| 2", b.entered(() -> b.ledger.meaning(or, 2)), "[(| a (~ a)), a]");
    }

    private static void orderOfNewTerms() {
        Bench b = bench();
        int t = b.read("(= a b)");
        b.ledger.meaning(t, 1);
        Bench.due("first the opposite of t", b.text(t + 1), "(~ (= a b))");
        Bench.due("then that of b", b.text(t + 2), "(~ b)");
        b.ledger.meaning(t, 3);
        Bench.due("then that of a", b.text(t + 3), "(~ a)");
        Bench.due("no more", b.termCount(), t + 4);
    }

    private static void notGranted() {
        Bench b = bench();
        b.ledger.symbol(0, 0, 0);
        String[] texts = {"a", "c", "(~ a)", "(< c 1)", "(= c 1)", "(! x a)", "(d a b)", "1",
            "(~ (& a b))", "(+ c 1)"};
        for (String text : texts) {
            int t = b.read(text);
            Bench.due(text, Bench.outcome(() -> b.ledger.meaning(t, 0)), Bench.WRONG);
        }
        Bench.due("no term", Bench.outcome(() -> b.ledger.meaning(99, 0)), Bench.MISSING);
        Bench.due("no term", Bench.outcome(() -> b.ledger.meaning(-1, 9)), Bench.MISSING);
        Bench.due("no steps", b.stepCount(), 0);
    }

    private static void tooDeep() {
        Bench b = bench();
        int t = b.read("(& " + Bench.nots(10, "a") + " b)");
        int before = b.termCount();
        Bench.due("the opposite of t", Bench.outcome(() -> b.ledger.meaning(t, 0)),
                Bench.TOO_GREAT);
        Bench.due("which 3", Bench.outcome(() -> b.ledger.meaning(t, 3)), Bench.WRONG);
        Bench.due("nothing is made", b.termCount(), before);
        Bench.due("t itself", b.ledger.meaning(t, 2), 0);
    }
}
