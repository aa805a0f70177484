/** Promises 17, 18, 20 and 21, a sentence at a time: open, close, scope, empty. */
public final class ScopeTest {
    public static void main(String[] args) {
        open();
        close();
        closeRefused();
        scope();
        empty();
        Bench.end();
    }

    private static void open() {
        Bench.holds("Opens a scope: how deep it lies (1 in the outermost one).",
                ScopeTest::opening);
        Bench.holds("one that is opened lies in the one that was innermost, and is the innermost"
                + " one until it is closed;", ScopeTest::innermost);
        Bench.holds("at most 20 are ever opened.", ScopeTest::twentyInOneAnother);
        Bench.holds("at most 20 are ever opened.", ScopeTest::twentyOneByOne);
        Bench.holds("To ENTER a clause: a new step in the innermost scope.",
                ScopeTest::enteringInTheInnermost);
    }

    private static void close() {
        Bench.holds("Closes the innermost scope: into the one around it is entered the row",
                ScopeTest::closing);
        Bench.holds("the row of the opposites of what was assumed in it", ScopeTest::opposites);
        Bench.holds("(itself, by assume(); each once), in order", ScopeTest::inOrder);
        Bench.holds("(itself, by assume(); each once)", ScopeTest::assumedInItself);
        Bench.holds("by assume(); each once", ScopeTest::assumedByAssume);
        Bench.holds("each once", ScopeTest::eachOnce);
        Bench.holds("to which the clause of the latest step lying in itself is joined.",
                ScopeTest::latestStep);
        Bench.holds("is joined.", ScopeTest::joined);
    }

    private static void closeRefused() {
        Bench.holds("IllegalArgumentException if it is the outermost one",
                ScopeTest::closingTheOutermost);
        Bench.holds("or has no step lying in itself.", ScopeTest::closingWithoutStep);
        Bench.holds("ArithmeticException: a term would be too deep", ScopeTest::closeTooDeep);
        Bench.holds("more than 8 truths", ScopeTest::closeWithNine);
        Bench.holds("100 terms", ScopeTest::closeWithoutTerms);
        Bench.holds("60 steps", ScopeTest::closeWithoutSteps);
    }

    private static void scope() {
        Bench.holds("How deep the scope lies in which a step lies (0 the outermost)",
                ScopeTest::depthsOfSteps);
        Bench.holds("plus 100 if the step does not stand;", ScopeTest::stepsThatDoNotStand);
        Bench.holds("-1 if there is no such step.", ScopeTest::scopeOfNoStep);
        Bench.holds("A step STANDS as long as no scope in which it lies, itself or by the one"
                + " around it, is closed.", ScopeTest::whatStands);
    }

    private static void empty() {
        Bench.holds("The first step of the outermost scope whose clause has no truth;",
                ScopeTest::firstOfTwo);
        Bench.holds("The first step of the outermost scope", ScopeTest::emptyInside);
        Bench.holds("-1 if there is none.", ScopeTest::noneIsEmpty);
    }

    /** Symbols a .. l are truths. */
    private static Bench bench() {
        return new Bench().symbols(12, 0);
    }

    private static void opening() {
        Bench b = bench();
        Bench.answers("in the outermost", b::open, 1);
        Bench.answers("in that", b::open, 2);
        Bench.answers("in that", b::open, 3);
        Bench.due("no step", b.stepCount(), 0);
        Bench c = bench();
        c.assume("a");
        Bench.answers("behind a step", c::open, 1);
    }

    private static void innermost() {
        Bench b = bench();
        b.open();
        b.open();
        b.assume("a");
        Bench.due("it lies two deep", b.scope(0), 2);
        b.close();
        b.assume("a");
        Bench.due("then that around it", b.scope(2), 1);
        Bench.answers("a second one in it", b::open, 2);
        b.assume("b");
        b.close();
        b.close();
        b.assume("c");
        Bench.due("then the outermost", b.scope(b.stepCount() - 1), 0);
        Bench.answers("again", b::open, 1);
    }

    private static void twentyInOneAnother() {
        Bench b = bench();
        for (int depth = 1; depth <= 20; depth++) {
            Bench.answers("scope", b::open, depth);
        }
        b.refuses("the twenty-first", b::open, Bench.NO_ROOM);
        b.assume("a");
        Bench.due("the innermost is the twentieth", b.scope(0), 20);
        for (int depth = 19; depth >= 0; depth--) {
            Bench.due("closed", b.scope(b.close()), depth);
        }
        b.refuses("though all are closed", b::open, Bench.NO_ROOM);
        b.refuses("the outermost", b::close, Bench.WRONG);
    }

    private static void twentyOneByOne() {
        Bench b = bench();
        int a = b.read("a");
        for (int i = 1; i <= 20; i++) {
            Bench.answers("scope", b::open, 1);
            b.assume(a);
            b.close();
        }
        b.refuses("the twenty-first", b::open, Bench.NO_ROOM);
        Bench.due("steps", b.stepCount(), 40);
        b.assume(a);
        Bench.due("the outermost", b.scope(40), 0);
    }

    private static void enteringInTheInnermost() {
        Bench b = bench();
        int a = b.read("a");
        int not = b.read("(~ a)");
        int equal = b.read("(= a a)");
        int less = b.read("(< 1 2)");
        int all = b.read("(! x a)");
        int one = b.read("1");
        b.assume(a);
        b.assume(not);
        b.open();
        b.open();
        Bench.Call[] rules = {() -> b.assume(a), () -> b.cut(0, a, 1), () -> b.widen(0, a),
            () -> b.meaning(equal, 0), () -> b.same(a), () -> b.chain(equal, equal),
            () -> b.turn(equal), () -> b.replace(not, not),
            () -> b.linear(less, -1, -1, 1, 0, 0), () -> b.instance(all, one)};
        for (Bench.Call rule : rules) {
            Bench.due("scope", b.scope(rule.answer()), 2);
        }
        Bench.due("close: the one around", b.scope(b.close()), 1);
    }

    private static void closing() {
        Bench b = bench();
        b.open();
        b.open();
        int inner = b.assume("a");
        b.enters(b::close, "[(~ a), a]");
        Bench.due("around it", b.scope(inner + 1), 1);
        Bench.due("closed", b.scope(inner), 102);
        b.enters(b::close, "[(~ a), a]");
        Bench.due("around that", b.scope(inner + 2), 0);
        Bench.due("closed", b.scope(inner + 1), 101);
    }

    private static void opposites() {
        Bench b = bench();
        b.open();
        b.assume("a");
        b.assume("(~ b)");
        b.assume("(~ (~ c))");
        b.assume("(& a b)");
        b.same(b.read("d"));
        b.enters(b::close, "[(~ a), b, (~ c), (~ (& a b)), (= d d)]");
    }

    private static void inOrder() {
        Bench b = bench();
        int d = b.read("d");
        int a = b.read("a");
        int c = b.read("c");
        b.open();
        b.assume(c);
        b.assume(d);
        b.assume(a);
        int terms = b.termCount();
        b.enters(b::close, "[(~ c), (~ d), (~ a), a]");
        Bench.due("terms are made in order, too", b.textOf(terms) + b.textOf(terms + 1)
                + b.textOf(terms + 2), "(~ c)(~ d)(~ a)");
    }

    private static void assumedInItself() {
        Bench b = bench();
        b.assume("a");
        b.open();
        b.assume("b");
        b.open();
        b.assume("c");
        b.enters(b::close, "[(~ c), c]");
        b.assume("d");
        b.same(b.read("e"));
        b.enters(b::close, "[(~ b), (~ d), (= e e)]");
        b.open();
        b.same(b.read("e"));
        b.enters(b::close, "[(= e e)]");
    }

    private static void assumedByAssume() {
        Bench b = bench();
        int a = b.read("a");
        int equal = b.read("(= a a)");
        int less = b.read("(< 1 2)");
        int all = b.read("(! x a)");
        int one = b.read("1");
        int not = b.read("(~ a)");
        int i = b.assume(a);
        int j = b.widen(b.assume(not), equal);
        Bench.Call[] rules = {() -> b.cut(i, a, j), () -> b.widen(i, a), () -> b.widen(i, not),
            () -> b.meaning(equal, 2), () -> b.same(a), () -> b.chain(equal, equal),
            () -> b.turn(equal), () -> b.replace(not, not),
            () -> b.linear(less, -1, -1, 1, 0, 0), () -> b.instance(all, one)};
        for (Bench.Call rule : rules) {
            b.open();
            String clause = b.entered(rule);
            b.enters(b::close, clause);
        }
        b.open();
        b.open();
        b.same(a);
        b.close();
        b.enters(b::close, "[(= a a)]");
    }

    private static void eachOnce() {
        Bench b = bench();
        b.open();
        b.assume("a");
        b.assume("b");
        b.assume("a");
        b.assume("(~ (~ a))");
        b.assume("b");
        b.enters(b::close, "[(~ a), (~ b), b]");
        Bench c = bench();
        c.open();
        c.fillStepsTo(59, c.read("a"));
        c.enters(c::close, "[(~ a), a]");
    }

    private static void latestStep() {
        Bench b = bench();
        b.open();
        int i = b.assume("a");
        b.widen(i, b.read("b"));
        b.widen(i, b.read("c"));
        b.enters(b::close, "[(~ a), a, c]");
        Bench c = bench();
        int a = c.assume("a");
        int not = c.assume("(~ a)");
        c.open();
        c.assume("b");
        c.cut(a, c.clause(a, 0), not);
        c.enters(c::close, "[(~ b)]");
        c.open();
        c.assume("c");
        c.open();
        c.assume("d");
        c.close();
        c.enters(c::close, "[(~ c), (~ d), d]");
    }

    private static void joined() {
        Bench b = bench();
        b.open();
        int i = b.step("c", "(~ a)", "(~ c)", "d");
        b.assume("a");
        b.widen(i, b.read("d"));
        b.enters(b::close, "[(~ c), (~ a), c, d]");
        b.open();
        b.assume("(~ e)");
        b.assume("e");
        b.enters(b::close, "[e, (~ e)]");
    }

    private static void closingTheOutermost() {
        Bench b = bench();
        b.refuses("at first", b::close, Bench.WRONG);
        b.assume("a");
        b.refuses("with a step", b::close, Bench.WRONG);
        b.open();
        b.assume("a");
        b.close();
        b.refuses("after another", b::close, Bench.WRONG);
        b.assume("a");
        Bench.due("it is open", b.scope(b.stepCount() - 1), 0);
        Bench.due("what was entered stands", b.scope(0), 0);
    }

    private static void closingWithoutStep() {
        Bench b = bench();
        b.open();
        b.refuses("no step at all", b::close, Bench.WRONG);
        b.assume("a");
        b.open();
        b.refuses("a step in the one around", b::close, Bench.WRONG);
        b.open();
        b.assume("b");
        b.enters(b::close, "[(~ b), b]");
        b.enters(b::close, "[(~ b), b]");
        b.enters(b::close, "[(~ a), (~ b), b]");
        b.open();
        b.refuses("a step in one that is closed", b::close, Bench.WRONG);
        Bench.answers("it is still open", b::open, 2);
    }

    private static void closeTooDeep() {
        Bench b = bench();
        b.open();
        int deep = b.assume("(& b " + Bench.nots(10, "a") + ")");
        b.refuses("the opposite of what is 12 deep", b::close, Bench.TOO_GREAT);
        b.same(b.read("a"));
        b.refuses("though another step is the latest", b::close, Bench.TOO_GREAT);
        Bench.due("it is still open", b.scope(deep), 1);
        Bench.answers("it is the innermost", b::open, 2);
        Bench c = bench();
        c.open();
        c.assume(Bench.nots(11, "a"));
        Bench.answers("the opposite of a ~ is not deeper", c::close, 1);
        c.open();
        c.assume("(& b " + Bench.nots(9, "a") + ")");
        Bench.answers("the opposite of what is 11 deep", c::close, 3);
        c.open();
        int d = c.assume("c");
        c.widen(d, c.read("(& b " + Bench.nots(10, "a") + ")"));
        Bench.answers("what is 12 deep was not assumed", c::close, 6);
    }

    private static void closeWithNine() {
        Bench b = bench();
        b.open();
        for (String text : new String[] {"a", "b", "c", "d", "e", "f", "g", "h"}) {
            b.assume(text);
        }
        b.refuses("eight and one", b::close, Bench.NO_ROOM);
        Bench.due("no opposite stays", b.termCount(), 8);
        b.same(b.read("a"));
        b.refuses("eight and one", b::close, Bench.NO_ROOM);
        int i = b.widen(0, b.read("(~ a)"));
        b.refuses("eight and one that is among them, and a", b::close, Bench.NO_ROOM);
        b.cut(i, b.read("a"), i);
        b.refuses("the same in another order", b::close, Bench.NO_ROOM);
        Bench.due("it is still open", b.scope(0), 1);
        Bench eight = bench();
        eight.open();
        for (String text : new String[] {"a", "b", "c", "d", "e", "f", "g"}) {
            eight.assume(text);
        }
        eight.enters(eight::close, "[(~ a), (~ b), (~ c), (~ d), (~ e), (~ f), (~ g), g]");
        Bench nine = bench();
        int p = nine.assume("(~ a)");
        nine.open();
        for (String text : new String[] {"a", "b", "c", "d", "e", "f", "g", "h"}) {
            nine.assume(text);
        }
        nine.widen(p, nine.read("(~ a)"));
        nine.enters(nine::close,
                "[(~ a), (~ b), (~ c), (~ d), (~ e), (~ f), (~ g), (~ h)]");
    }

    private static void closeWithoutTerms() {
        Bench b = bench();
        b.open();
        b.assume("a");
        b.assume("b");
        b.fillTermsTo(99);
        b.refuses("two terms more", b::close, Bench.NO_ROOM);
        Bench.due("it is still open", b.scope(0), 1);
        Bench c = bench();
        c.open();
        c.assume("a");
        c.assume("b");
        c.fillTermsTo(98);
        c.enters(c::close, "[(~ a), (~ b), b]");
        Bench.due("terms", c.termCount(), 100);
        c.open();
        c.assume(c.clause(2, 0));
        c.enters(c::close, "[a, (~ a)]");
        Bench once = bench();
        once.open();
        once.fillStepsTo(3, once.read("a"));
        once.fillTermsTo(99);
        once.enters(once::close, "[(~ a), a]");
    }

    private static void closeWithoutSteps() {
        Bench b = bench();
        b.open();
        b.fillStepsTo(60, b.read("a"));
        b.refuses("the 61st", b::close, Bench.NO_ROOM);
        Bench.due("it is still open", b.scope(0), 1);
        Bench.due("no (~ a) stays", b.termCount(), 1);
        Bench c = bench();
        c.open();
        c.fillStepsTo(59, c.read("a"));
        Bench.answers("the 60th", c::close, 59);
    }

    private static void depthsOfSteps() {
        Bench b = bench();
        int a = b.read("a");
        for (int depth = 0; depth <= 20; depth++) {
            int step = b.assume(a);
            Bench.due("depth", b.scope(step), depth);
            if (depth < 20) {
                b.open();
            }
        }
        Bench.due("the first", b.scope(0), 0);
        Bench.due("the eleventh", b.scope(10), 10);
    }

    private static void stepsThatDoNotStand() {
        Bench b = bench();
        int a = b.read("a");
        int out = b.assume(a);
        b.open();
        int one = b.assume(a);
        b.open();
        int two = b.assume(a);
        int three = b.close();
        Bench.due("inside", b.scope(two), 102);
        Bench.due("around it", b.scope(one) + " " + b.scope(three), "1 1");
        int four = b.close();
        Bench.due("inside", b.scope(two), 102);
        Bench.due("around it", b.scope(one) + " " + b.scope(three), "101 101");
        Bench.due("outermost", b.scope(out) + " " + b.scope(four), "0 0");
        b.open();
        Bench.due("a new scope brings nothing back", b.scope(one), 101);
    }

    private static void scopeOfNoStep() {
        Bench b = bench();
        Bench.due("no step at all", b.scope(0), -1);
        b.assume("a");
        b.open();
        for (int none : new int[] {1, -1, 60, Bench.LOWEST, Bench.HIGHEST}) {
            Bench.due("step " + none, b.scope(none), -1);
        }
    }

    private static void whatStands() {
        Bench b = bench();
        int out = b.assume("a");
        b.open();
        int one = b.assume("b");
        b.open();
        int two = b.assume("(~ b)");
        int t = b.read("b");
        int not = b.read("(~ b)");
        int a = b.read("a");
        b.enters(() -> b.cut(one, t, two), "[]");
        b.enters(() -> b.widen(out, t), "[a, b]");
        b.close();
        b.refuses("widen", () -> b.widen(two, a), Bench.MISSING);
        b.refuses("cut i", () -> b.cut(two, not, one), Bench.MISSING);
        b.refuses("cut j", () -> b.cut(one, t, two), Bench.MISSING);
        b.enters(() -> b.widen(one, a), "[b, a]");
        b.close();
        b.refuses("by the one around it", () -> b.widen(two, a), Bench.MISSING);
        b.refuses("itself", () -> b.widen(one, a), Bench.MISSING);
        b.open();
        b.refuses("in a new scope", () -> b.widen(one, a), Bench.MISSING);
        b.enters(() -> b.widen(out, not), "[a, (~ b)]");
    }

    private static void firstOfTwo() {
        Bench b = bench();
        int a = b.read("a");
        int not = b.read("(~ a)");
        b.assume(a);
        b.assume(not);
        Bench.due("none yet", b.empty(), -1);
        b.cut(0, a, 1);
        Bench.due("the first", b.empty(), 2);
        b.cut(1, not, 0);
        Bench.due("still the first", b.empty(), 2);
        b.open();
        Bench.due("in a scope, too", b.empty(), 2);
    }

    private static void emptyInside() {
        Bench b = bench();
        int a = b.read("a");
        int not = b.read("(~ a)");
        b.assume(a);
        b.assume(not);
        b.open();
        int inside = b.cut(0, a, 1);
        Bench.due("no truth", b.clause(inside, -1), 0);
        Bench.due("inside", b.empty(), -1);
        int closed = b.close();
        Bench.due("closed with nothing assumed", b.empty(), closed);
        Bench c = bench();
        c.assume(c.read("a"));
        c.open();
        c.assume(c.read("(~ a)"));
        c.cut(0, c.clause(0, 0), 1);
        Bench.due("inside", c.empty(), -1);
        c.enters(c::close, "[a]");
        Bench.due("what follows has a truth", c.empty(), -1);
    }

    private static void noneIsEmpty() {
        Bench b = bench();
        Bench.due("no step", b.empty(), -1);
        b.step("a", "b", "c");
        Bench.due("no empty one", b.empty(), -1);
    }
}
