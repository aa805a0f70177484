/** Promises 7, 8, 9 and 19, a sentence at a time: assume, cut, widen, clause. */
public final class StepTest {
    public static void main(String[] args) {
        assume();
        cut();
        widen();
        clause();
        Bench.end();
    }

    private static void assume() {
        Bench.holds("Enters a truth alone: it is taken for granted in the innermost scope.",
                StepTest::assumedAlone);
        Bench.holds("The step's number, as with all that follow.", StepTest::stepNumbers);
        Bench.holds("there is no such term or no such step that stands.",
                StepTest::assumingNoTerm);
        Bench.holds("something has not the form or sort that is asked for",
                StepTest::assumingNoTruth);
        Bench.holds("STEPS are numbered 0, 1, .., at most 60;", StepTest::sixtySteps);
        Bench.holds("at most 60; each has a clause", StepTest::sixtiethStep);
        Bench.holds("IllegalStateException: there would be no room", StepTest::hundredTerms);
    }

    private static void cut() {
        Bench.holds("from step i whose clause has t and step j whose clause has its opposite, the"
                + " truths of i but t, to which those of j but the opposite are joined",
                StepTest::cutting);
        Bench.holds("The OPPOSITE of ~ t is t, of any other truth t it is ~ t.",
                StepTest::cuttingOpposites);
        Bench.holds("(nothing else goes; i and j may be one)", StepTest::nothingElseGoes);
        Bench.holds("i and j may be one", StepTest::cuttingInOne);
        Bench.holds("IllegalArgumentException if i hasn't t, or j not its opposite.",
                StepTest::cutsNotGranted);
        Bench.holds("there is no such term or no such step that stands.", StepTest::cutsOfNothing);
        Bench.holds("A CLAUSE is a row of up to 8 different truths", StepTest::cutsToEight);
        Bench.holds("To JOIN truths to a row: those that are not there already are put behind, in"
                + " their order.", StepTest::joiningByCut);
    }

    private static void widen() {
        Bench.holds("The clause of step i, to which truth t is joined", StepTest::widening);
        Bench.holds("(if it is there already: the same clause, a new step)",
                StepTest::wideningByWhatIsThere);
        Bench.holds("A CLAUSE is a row of up to 8 different truths", StepTest::wideningToEight);
        Bench.holds("there is no such term or no such step that stands.",
                StepTest::wideningNothing);
        Bench.holds("something has not the form or sort that is asked for",
                StepTest::wideningByNoTruth);
    }

    private static void clause() {
        Bench.holds("Truth k (from 0) of a step's clause;", StepTest::truthsOfClauses);
        Bench.holds("with k = -1 how many it has;", StepTest::sizesOfClauses);
        Bench.holds("-1 if there is no such step or truth (k below -1).", StepTest::noSuchTruth);
        Bench.holds("(Also of steps that do not stand.)", StepTest::clausesThatDoNotStand);
    }

    /** Symbols a .. k are truths, l is a number. */
    private static Bench bench() {
        return new Bench().symbols(11, 0).symbols(1, 1);
    }

    private static void assumedAlone() {
        Bench b = bench();
        int a = b.read("a");
        int not = b.read("(~ a)");
        b.enters(() -> b.assume(a), "[a]");
        b.enters(() -> b.assume(not), "[(~ a)]");
        b.enters(() -> b.assume(a), "[a]");
        b.open();
        b.enters(() -> b.assume(not), "[(~ a)]");
        Bench.due("scope", b.scope(3), 1);
        b.open();
        b.enters(() -> b.assume(a), "[a]");
        Bench.due("scope", b.scope(4), 2);
        Bench.due("no term is made", b.termCount(), 2);
    }

    private static void stepNumbers() {
        Bench b = bench();
        int t = b.read("(= a a)");
        int less = b.read("(< 1 2)");
        int all = b.read("(! x a)");
        int one = b.read("1");
        Bench.answers("assume", () -> b.assume(t), 0);
        Bench.answers("widen", () -> b.widen(0, less), 1);
        Bench.answers("meaning", () -> b.meaning(t, 0), 2);
        Bench.answers("cut", () -> b.cut(0, t, 2), 3);
        Bench.answers("same", () -> b.same(t), 4);
        Bench.answers("chain", () -> b.chain(t, t), 5);
        Bench.answers("turn", () -> b.turn(t), 6);
        Bench.answers("replace", () -> b.replace(t, t), 7);
        Bench.answers("linear", () -> b.linear(less, -1, -1, 1, 0, 0), 8);
        Bench.answers("instance", () -> b.instance(all, one), 9);
        b.open();
        Bench.answers("assume", () -> b.assume(t), 10);
        Bench.answers("close", b::close, 11);
    }

    private static void assumingNoTerm() {
        Bench b = bench();
        b.read("(~ a)");
        for (int t : new int[] {2, -1, 99, 100, Bench.LOWEST, Bench.HIGHEST}) {
            b.refuses("term " + t, () -> b.assume(t), Bench.MISSING);
        }
        b.enters(() -> b.assume(1), "[(~ a)]");
    }

    private static void assumingNoTruth() {
        Bench b = bench();
        b.sort();
        b.variable(0, 2);
        b.variable(1, 0);
        for (String text : new String[] {"l", "x", "1/2", "(+ l 1)", "(* 2 l)"}) {
            int t = b.read(text);
            b.refuses(text, () -> b.assume(t), Bench.WRONG);
        }
        for (String text : new String[] {"a", "y", "(= x x)", "(< l 1)", "(~ y)", "(& a a)",
            "(| a y)", "(! x a)"}) {
            int t = b.read(text);
            b.enters(() -> b.assume(t), "[" + text + "]");
        }
    }

    /** With sixty steps no rule enters one more. */
    private static void sixtySteps() {
        Bench b = bench();
        int t = b.read("(= a a)");
        int not = b.read("(~ (= a a))");
        int less = b.read("(< 1 2)");
        int all = b.read("(! x a)");
        int one = b.read("1");
        b.assume(t);
        b.assume(not);
        for (int i = 2; i < 59; i++) {
            Bench.answers("step", () -> b.assume(t), b.stepCount());
        }
        b.open();
        Bench.answers("the last", () -> b.assume(t), 59);
        b.refuses("assume", () -> b.assume(t), Bench.NO_ROOM);
        b.refuses("cut", () -> b.cut(0, t, 1), Bench.NO_ROOM);
        b.refuses("widen", () -> b.widen(0, t), Bench.NO_ROOM);
        b.refuses("meaning", () -> b.meaning(t, 0), Bench.NO_ROOM);
        b.refuses("same", () -> b.same(one), Bench.NO_ROOM);
        b.refuses("chain", () -> b.chain(t, t), Bench.NO_ROOM);
        b.refuses("turn", () -> b.turn(t), Bench.NO_ROOM);
        b.refuses("replace", () -> b.replace(t, t), Bench.NO_ROOM);
        b.refuses("linear", () -> b.linear(less, -1, -1, 1, 0, 0), Bench.NO_ROOM);
        b.refuses("instance", () -> b.instance(all, one), Bench.NO_ROOM);
        b.refuses("close", b::close, Bench.NO_ROOM);
        Bench.due("the scope is open still", b.scope(59), 1);
        Bench.due("steps", b.stepCount(), 60);
        Bench.due("terms are read all the same", b.textOf(b.read("(~ a)")), "(~ a)");
        Bench.due("scopes are opened all the same", b.open(), 2);
    }

    private static void sixtiethStep() {
        Bench b = bench();
        int i = b.step("a", "b", "c", "d", "e", "f", "g", "h");
        int h = b.read("h");
        b.fillStepsTo(58, b.read("k"));
        b.enters(() -> b.widen(i, h), "[a, b, c, d, e, f, g, h]");
        b.enters(() -> b.widen(i, 0), "[a, b, c, d, e, f, g, h]");
        Bench.due("step 57 is what it was", b.clauseOf(57), "[k]");
        Bench.due("truth 8 of the last", b.clause(59, 8), -1);
        Bench.due("a step behind it", b.clause(60, 0), -1);
    }

    /** Rules that make no terms go on when there are a hundred. */
    private static void hundredTerms() {
        Bench b = bench();
        int i = b.step("a", "b");
        int j = b.step("(~ a)");
        int less = b.read("(< 1 2)");
        b.fillTermsTo(100);
        b.enters(() -> b.assume(0), "[a]");
        b.enters(() -> b.widen(j, 1), "[(~ a), b]");
        b.enters(() -> b.cut(i, 0, j), "[b]");
        b.enters(() -> b.linear(less, -1, -1, 1, 0, 0), "[(< 1 2)]");
        Bench.due("terms", b.termCount(), 100);
    }

    private static void cutting() {
        Bench b = bench();
        int i = b.step("a", "b", "c");
        int j = b.step("d", "(~ b)", "e");
        int t = b.read("b");
        int not = b.read("(~ b)");
        b.enters(() -> b.cut(i, t, j), "[a, c, d, e]");
        b.enters(() -> b.cut(j, not, i), "[d, e, a, c]");
        int one = b.step("f");
        int other = b.step("(~ f)");
        int f = b.read("f");
        b.enters(() -> b.cut(one, f, other), "[]");
        int more = b.step("(~ f)", "g");
        b.enters(() -> b.cut(one, f, more), "[g]");
        Bench.due("the steps are what they were", b.clauseOf(i) + b.clauseOf(j),
                "[a, b, c][d, (~ b), e]");
    }

    private static void cuttingOpposites() {
        Bench b = bench();
        int once = b.step("a");
        int not = b.step("(~ a)");
        int twice = b.step("(~ (~ a))");
        int thrice = b.step("(~ (~ (~ a)))");
        int[] t = {b.read("a"), b.read("(~ a)"), b.read("(~ (~ a))"), b.read("(~ (~ (~ a)))")};
        b.enters(() -> b.cut(once, t[0], not), "[]");
        b.enters(() -> b.cut(not, t[1], once), "[]");
        b.enters(() -> b.cut(twice, t[2], not), "[]");
        b.enters(() -> b.cut(thrice, t[3], twice), "[]");
        b.refuses("(~ (~ a)) is no opposite of (~ a)", () -> b.cut(not, t[1], twice),
                Bench.WRONG);
        b.refuses("(~ (~ (~ a))) is none of (~ (~ a))", () -> b.cut(twice, t[2], thrice),
                Bench.WRONG);
    }

    private static void nothingElseGoes() {
        Bench b = bench();
        int p = b.step("a", "b", "(~ c)");
        int q = b.step("(~ b)", "(~ a)", "c");
        int t = b.read("b");
        b.enters(() -> b.cut(p, t, q), "[a, (~ c), (~ a), c]");
        int r = b.step("d", "(~ d)", "e");
        int s = b.step("(~ d)", "d", "f");
        int d = b.read("d");
        b.enters(() -> b.cut(r, d, s), "[(~ d), e, d, f]");
    }

    private static void cuttingInOne() {
        Bench b = bench();
        int i = b.step("a", "b", "(~ a)");
        int a = b.read("a");
        int not = b.read("(~ a)");
        b.enters(() -> b.cut(i, a, i), "[b, (~ a), a]");
        b.enters(() -> b.cut(i, not, i), "[a, b, (~ a)]");
        int j = b.step("a", "(~ a)");
        b.enters(() -> b.cut(j, a, j), "[(~ a), a]");
    }

    private static void cutsNotGranted() {
        Bench b = bench();
        int i = b.step("a", "b");
        int j = b.step("(~ a)", "c");
        int a = b.read("a");
        int t = b.read("b");
        int not = b.read("(~ a)");
        int c = b.read("c");
        int l = b.read("l");
        int k = b.read("k");
        b.refuses("i hasn't c", () -> b.cut(i, c, j), Bench.WRONG);
        b.refuses("i hasn't (~ a)", () -> b.cut(i, not, i), Bench.WRONG);
        b.refuses("the other way round", () -> b.cut(j, a, i), Bench.WRONG);
        b.refuses("j hasn't (~ a)", () -> b.cut(i, a, i), Bench.WRONG);
        b.refuses("(~ b) is no term", () -> b.cut(i, t, j), Bench.WRONG);
        b.refuses("a number", () -> b.cut(i, l, j), Bench.WRONG);
        b.refuses("in neither", () -> b.cut(i, k, j), Bench.WRONG);
        Bench deep = bench();
        int d = deep.step("(& a " + Bench.nots(10, "a") + ")");
        int top = deep.clause(d, 0);
        Bench.due("depth", deep.look(top, 2), 12);
        deep.refuses("an opposite that would be too deep stands nowhere",
                () -> deep.cut(d, top, d), Bench.WRONG);
    }

    private static void cutsOfNothing() {
        Bench b = bench();
        b.open();
        int closed = b.step("a");
        b.close();
        int i = b.step("a");
        int j = b.step("(~ a)");
        int a = b.read("a");
        for (int none : new int[] {j + 1, -1, 60, Bench.LOWEST, Bench.HIGHEST, closed}) {
            b.refuses("step i " + none, () -> b.cut(none, a, j), Bench.MISSING);
            b.refuses("step j " + none, () -> b.cut(i, a, none), Bench.MISSING);
        }
        int terms = b.termCount();
        for (int none : new int[] {terms, -1, Bench.LOWEST, Bench.HIGHEST}) {
            b.refuses("term " + none, () -> b.cut(i, none, j), Bench.MISSING);
        }
        b.enters(() -> b.cut(i, a, j), "[]");
    }

    private static void cutsToEight() {
        Bench b = bench();
        int i = b.step("a", "b", "c", "d", "e");
        int j = b.step("(~ a)", "f", "g", "h", "i");
        int wide = b.widen(j, b.read("j"));
        int shared = b.widen(j, b.read("b"));
        int a = b.read("a");
        b.enters(() -> b.cut(i, a, j), "[b, c, d, e, f, g, h, i]");
        b.refuses("nine", () -> b.cut(i, a, wide), Bench.NO_ROOM);
        b.enters(() -> b.cut(i, a, shared), "[b, c, d, e, f, g, h, i]");
    }

    private static void joiningByCut() {
        Bench b = bench();
        int i = b.step("a", "b", "c", "d");
        int j = b.step("e", "d", "(~ a)", "b", "f");
        int a = b.read("a");
        b.enters(() -> b.cut(i, a, j), "[b, c, d, e, f]");
        int not = b.read("(~ a)");
        b.enters(() -> b.cut(j, not, i), "[e, d, b, f, c]");
    }

    private static void widening() {
        Bench b = bench();
        int i = b.step("b");
        int a = b.read("a");
        int c = b.read("(~ c)");
        b.enters(() -> b.widen(i, a), "[b, a]");
        b.enters(() -> b.widen(i + 1, c), "[b, a, (~ c)]");
        Bench.due("the first is what it was", b.clauseOf(i), "[b]");
        Bench.due("the second is what it was", b.clauseOf(i + 1), "[b, a]");
        int not = b.step("(~ b)");
        int t = b.read("b");
        int empty = b.cut(i, t, not);
        b.enters(() -> b.widen(empty, a), "[a]");
    }

    private static void wideningByWhatIsThere() {
        Bench b = bench();
        int i = b.step("a", "b", "c");
        for (String text : new String[] {"a", "b", "c"}) {
            int t = b.read(text);
            b.enters(() -> b.widen(i, t), "[a, b, c]");
        }
    }

    private static void wideningToEight() {
        Bench b = bench();
        int i = b.step("a", "b", "c", "d", "e", "f", "g");
        int h = b.read("h");
        int k = b.read("k");
        b.enters(() -> b.widen(i, h), "[a, b, c, d, e, f, g, h]");
        b.refuses("nine", () -> b.widen(i + 1, k), Bench.NO_ROOM);
        b.enters(() -> b.widen(i + 1, h), "[a, b, c, d, e, f, g, h]");
    }

    private static void wideningNothing() {
        Bench b = bench();
        b.open();
        int closed = b.step("a");
        b.close();
        int i = b.step("a");
        int a = b.read("a");
        for (int none : new int[] {i + 1, -1, 60, Bench.LOWEST, Bench.HIGHEST, closed}) {
            b.refuses("step " + none, () -> b.widen(none, a), Bench.MISSING);
        }
        int terms = b.termCount();
        for (int none : new int[] {terms, -1, Bench.LOWEST, Bench.HIGHEST}) {
            b.refuses("term " + none, () -> b.widen(i, none), Bench.MISSING);
        }
    }

    private static void wideningByNoTruth() {
        Bench b = bench();
        int i = b.step("a");
        for (String text : new String[] {"l", "x", "7", "(+ l 1)", "(* 2 l)"}) {
            int t = b.read(text);
            b.refuses(text, () -> b.widen(i, t), Bench.WRONG);
        }
    }

    private static void truthsOfClauses() {
        Bench b = bench();
        int i = b.step("h", "g", "f", "e", "d", "c", "b", "a");
        for (int k = 0; k < 8; k++) {
            Bench.due("truth " + k, b.clause(i, k), b.read("hgfedcba".substring(k, k + 1)));
        }
        Bench.due("truth 0 of step 0", b.clause(0, 0), b.read("h"));
    }

    private static void sizesOfClauses() {
        Bench b = bench();
        int i = b.step("a", "b", "c", "d", "e", "f", "g", "h");
        for (int size = 1; size <= 8; size++) {
            Bench.due("size", b.clause(i - 8 + size, -1), size);
        }
        int not = b.step("(~ a)");
        int a = b.read("a");
        Bench.due("none", b.clause(b.cut(0, a, not), -1), 0);
    }

    private static void noSuchTruth() {
        Bench b = bench();
        int i = b.step("a", "b", "c", "d", "e", "f", "g", "h");
        int not = b.step("(~ a)");
        int a = b.read("a");
        int empty = b.cut(0, a, not);
        for (int k : new int[] {8, 9, -2, Bench.LOWEST, Bench.HIGHEST}) {
            Bench.due("truth " + k + " of eight", b.clause(i, k), -1);
        }
        for (int k : new int[] {1, 2, -2}) {
            Bench.due("truth " + k + " of one", b.clause(0, k), -1);
        }
        Bench.due("truth 0 of none", b.clause(empty, 0), -1);
        for (int none : new int[] {empty + 1, -1, -2, 60, Bench.LOWEST, Bench.HIGHEST}) {
            for (int k : new int[] {-2, -1, 0, 1}) {
                Bench.due("truth " + k + " of step " + none, b.clause(none, k), -1);
            }
        }
    }

    private static void clausesThatDoNotStand() {
        Bench b = bench();
        b.open();
        int inner = b.step("c", "d");
        b.close();
        Bench.due("its scope", b.scope(inner), 101);
        Bench.due("its clause", b.clauseOf(inner), "[c, d]");
        Bench.due("beyond it", b.clause(inner, 2), -1);
    }
}
