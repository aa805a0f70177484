/** Promises 7, 8, 9 and 19: assume, cut, widen, clause. */
public final class StepTest {
    public static void main(String[] args) {
        assuming();
        cutting();
        cuttingInOne();
        cutsNotGranted();
        cutsTooWide();
        widening();
        clauses();
        sixtySteps();
        Bench.end();
    }

    /** Symbols a .. k are truths, l is a number. */
    private static Bench bench() {
        Bench b = new Bench();
        for (int i = 0; i < 11; i++) {
            b.ledger.symbol(0, -1, -1);
        }
        b.ledger.symbol(1, -1, -1);
        return b;
    }

    private static int clauseOf(Bench b, String... texts) {
        int step = b.ledger.assume(b.read(texts[0]));
        for (int i = 1; i < texts.length; i++) {
            step = b.ledger.widen(step, b.read(texts[i]));
        }
        return step;
    }

    private static void assuming() {
        Bench b = bench();
        int a = b.read("a");
        int l = b.read("l");
        Bench.due("step 0", Bench.outcome(() -> b.ledger.assume(a)), 0);
        Bench.due("step 1", Bench.outcome(() -> b.ledger.assume(a)), 1);
        Bench.due("clause", b.clause(1), "[a]");
        Bench.due("a number", Bench.outcome(() -> b.ledger.assume(l)), Bench.WRONG);
        Bench.due("no term", Bench.outcome(() -> b.ledger.assume(2)), Bench.MISSING);
        Bench.due("no term", Bench.outcome(() -> b.ledger.assume(-1)), Bench.MISSING);
        Bench.due("steps", b.stepCount(), 2);
    }

    private static void cutting() {
        Bench b = bench();
        int i = clauseOf(b, "a", "b", "c");
        int j = clauseOf(b, "c", "(~ b)", "d");
        int t = b.read("b");
        int not = b.read("(~ b)");
        Bench.due("b", b.entered(() -> b.ledger.cut(i, t, j)), "[a, c, d]");
        Bench.due("(~ b)", b.entered(() -> b.ledger.cut(j, not, i)), "[c, d, a]");
        int one = clauseOf(b, "(~ e)");
        int other = clauseOf(b, "e");
        int e = b.read("(~ e)");
        Bench.due("nothing is left", b.entered(() -> b.ledger.cut(one, e, other)), "[]");
        Bench.due("it is the empty one", b.ledger.empty(), b.stepCount() - 1);
        int p = clauseOf(b, "a", "b", "(~ c)");
        int q = clauseOf(b, "(~ b)", "(~ a)", "c");
        Bench.due("nothing else goes", b.entered(() -> b.ledger.cut(p, t, q)),
                "[a, (~ c), (~ a), c]");
        int twice = clauseOf(b, "(~ (~ f))");
        int once = clauseOf(b, "(~ f)");
        int f = b.read("(~ (~ f))");
        Bench.due("the opposite of (~ (~ f))", b.entered(() -> b.ledger.cut(twice, f, once)),
                "[]");
    }

    private static void cuttingInOne() {
        Bench b = bench();
        int i = clauseOf(b, "a", "b", "(~ a)");
        int a = b.read("a");
        Bench.due("i and j are one", b.entered(() -> b.ledger.cut(i, a, i)), "[b, (~ a), a]");
    }

    private static void cutsNotGranted() {
        Bench b = bench();
        int i = clauseOf(b, "a", "b");
        int j = clauseOf(b, "(~ a)", "c");
        int a = b.read("a");
        int not = b.read("(~ a)");
        int c = b.read("c");
        int l = b.read("l");
        int k = b.read("(~ k)");
        String state = b.state();
        Bench.due("i has not c", Bench.outcome(() -> b.ledger.cut(i, c, j)), Bench.WRONG);
        Bench.due("j has not (~ a)", Bench.outcome(() -> b.ledger.cut(i, a, i)), Bench.WRONG);
        Bench.due("i has not (~ a)", Bench.outcome(() -> b.ledger.cut(i, not, i)), Bench.WRONG);
        Bench.due("the other way", Bench.outcome(() -> b.ledger.cut(j, a, i)), Bench.WRONG);
        Bench.due("j has not (~ b)", Bench.outcome(() -> b.ledger.cut(i, b.ledger.clause(i, 1), j)),
                Bench.WRONG);
        Bench.due("a number", Bench.outcome(() -> b.ledger.cut(i, l, j)), Bench.WRONG);
        Bench.due("in neither", Bench.outcome(() -> b.ledger.cut(i, k, j)), Bench.WRONG);
        Bench.due("no step i", Bench.outcome(() -> b.ledger.cut(99, a, j)), Bench.MISSING);
        Bench.due("no step j", Bench.outcome(() -> b.ledger.cut(i, a, -1)), Bench.MISSING);
        Bench.due("no term", Bench.outcome(() -> b.ledger.cut(i, 99, j)), Bench.MISSING);
        Bench.due("nothing has changed", b.state(), state);
    }

    private static void cutsTooWide() {
        Bench b = bench();
        int i = clauseOf(b, "a", "b", "c", "d", "e");
        int j = clauseOf(b, "(~ a)", "f", "g", "h", "i");
        int wide = clauseOf(b, "(~ a)", "f", "g", "h", "i", "j");
        int a = b.read("a");
        Bench.due("eight", b.entered(() -> b.ledger.cut(i, a, j)), "[b, c, d, e, f, g, h, i]");
        Bench.due("nine", b.entered(() -> b.ledger.cut(i, a, wide)), Bench.NO_ROOM);
    }

    private static void widening() {
        Bench b = bench();
        int i = clauseOf(b, "a", "b", "c", "d", "e", "f", "g", "h");
        Bench.due("eight", b.clause(i), "[a, b, c, d, e, f, g, h]");
        int h = b.read("h");
        int k = b.read("k");
        int l = b.read("l");
        Bench.due("there already", b.entered(() -> b.ledger.widen(i, h)), b.clause(i));
        Bench.due("a new step", b.stepCount(), i + 2);
        Bench.due("nine", b.entered(() -> b.ledger.widen(i, k)), Bench.NO_ROOM);
        Bench.due("a number", Bench.outcome(() -> b.ledger.widen(i, l)), Bench.WRONG);
        Bench.due("no step", Bench.outcome(() -> b.ledger.widen(99, l)), Bench.MISSING);
        Bench.due("no step", Bench.outcome(() -> b.ledger.widen(-1, h)), Bench.MISSING);
        Bench.due("no term", Bench.outcome(() -> b.ledger.widen(i, -1)), Bench.MISSING);
        Bench.due("the first step is what it was", b.clause(0), "[a]");
    }

    private static void clauses() {
        Bench b = bench();
        int i = clauseOf(b, "a", "b");
        Bench.due("how many", b.ledger.clause(i, -1), 2);
        Bench.due("truth 0", b.ledger.clause(i, 0), b.read("a"));
        Bench.due("truth 1", b.ledger.clause(i, 1), b.read("b"));
        Bench.due("truth 2", b.ledger.clause(i, 2), -1);
        Bench.due("k -2", b.ledger.clause(i, -2), -1);
        Bench.due("k lowest", b.ledger.clause(i, Integer.MIN_VALUE), -1);
        Bench.due("no step", b.ledger.clause(i + 1, 0), -1);
        Bench.due("no step", b.ledger.clause(i + 1, -1), -1);
        Bench.due("no step", b.ledger.clause(-1, -1), -1);
        b.ledger.open();
        int inner = clauseOf(b, "c", "d");
        b.ledger.close();
        Bench.due("one that does not stand", b.clause(inner), "[c, d]");
    }

    private static void sixtySteps() {
        Bench b = bench();
        int a = b.read("a");
        int l = b.read("l");
        for (int i = 0; i < 60; i++) {
            Bench.due("step", b.ledger.assume(a), i);
        }
        Bench.due("assume", Bench.outcome(() -> b.ledger.assume(a)), Bench.NO_ROOM);
        Bench.due("widen", Bench.outcome(() -> b.ledger.widen(0, a)), Bench.NO_ROOM);
        Bench.due("same", Bench.outcome(() -> b.ledger.same(a)), Bench.NO_ROOM);
        Bench.due("a number", Bench.outcome(() -> b.ledger.assume(l)), Bench.WRONG);
        Bench.due("no term of (= a a) stays", b.termCount(), 2);
        Bench.due("steps", b.stepCount(), 60);
    }
}
