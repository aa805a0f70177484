/** Promises 17, 18, 20 and 21: open, close, scope, empty. */
public final class ScopeTest {
    public static void main(String[] args) {
        opening();
        closing();
        assumptionsOnce();
        onlyItsOwn();
        onlyWhatWasAssumed();
        notClosable();
        whatStands();
        closeTooDeep();
        closeWithoutRoom();
        emptyClauses();
        Bench.end();
    }

    /** Symbols a .. l are truths. */
    private static Bench bench() {
        Bench b = new Bench();
        for (int i = 0; i < 12; i++) {
            b.ledger.symbol(0, -1, -1);
        }
        return b;
    }

    private static int assume(Bench b, String text) {
        return b.ledger.assume(b.read(text));
    }

    private static void opening() {
        Bench b = bench();
        Bench.due("first", b.ledger.open(), 1);
        Bench.due("inside", b.ledger.open(), 2);
        assume(b, "a");
        Bench.due("closed", b.ledger.close(), 1);
        Bench.due("inside again", b.ledger.open(), 2);
        for (int i = 4; i <= 20; i++) {
            Bench.due("scope " + i, b.ledger.open(), i - 1);
        }
        Bench.due("21", Bench.outcome(b.ledger::open), Bench.NO_ROOM);
        assume(b, "a");
        b.ledger.close();
        Bench.due("ever opened", Bench.outcome(b.ledger::open), Bench.NO_ROOM);
        Bench.due("thrown", b.thrownCount(), 2);
    }

    private static void closing() {
        Bench b = bench();
        b.ledger.open();
        assume(b, "a");
        assume(b, "(~ b)");
        int i = assume(b, "c");
        int last = b.ledger.widen(i, b.read("d"));
        int step = b.ledger.close();
        Bench.due("the next step", step, last + 1);
        Bench.due("clause", b.clause(step), "[(~ a), b, (~ c), c, d]");
        Bench.due("in the scope around", b.ledger.scope(step), 0);
        Bench d = bench();
        d.ledger.open();
        assume(d, "a");
        Bench.due("what is made", d.clause(d.ledger.close()), "[(~ a), a]");
        Bench e = bench();
        e.ledger.open();
        e.ledger.same(e.read("a"));
        Bench.due("nothing assumed", e.clause(e.ledger.close()), "[(= a a)]");
    }

    private static void assumptionsOnce() {
        Bench b = bench();
        b.ledger.open();
        assume(b, "a");
        assume(b, "b");
        assume(b, "a");
        assume(b, "(~ (~ a))");
        int step = b.ledger.widen(assume(b, "b"), b.read("(~ a)"));
        Bench.due("widened", b.clause(step), "[b, (~ a)]");
        Bench.due("each once", b.clause(b.ledger.close()), "[(~ a), (~ b), b]");
    }

    private static void onlyItsOwn() {
        Bench b = bench();
        assume(b, "a");
        b.ledger.open();
        assume(b, "b");
        b.ledger.open();
        assume(b, "c");
        int step = b.ledger.close();
        Bench.due("the inner one", b.clause(step), "[(~ c), c]");
        Bench.due("where", b.ledger.scope(step), 1);
        step = b.ledger.close();
        Bench.due("the outer one", b.clause(step), "[(~ b), (~ c), c]");
        Bench.due("where", b.ledger.scope(step), 0);
    }

    private static void onlyWhatWasAssumed() {
        Bench b = new Bench();
        b.ledger.symbol(0, -1, -1);
        int a = b.read("a");
        int equal = b.read("(= a a)");
        int less = b.read("(< 1 2)");
        int all = b.read("(! x a)");
        int one = b.read("1");
        int not = b.read("(~ a)");
        int i = b.ledger.assume(a);
        int j = b.ledger.widen(b.ledger.assume(not), equal);
        Bench.Call[] rules = {() -> b.ledger.cut(i, a, j), () -> b.ledger.widen(i, not),
            () -> b.ledger.meaning(equal, 2), () -> b.ledger.same(a),
            () -> b.ledger.chain(equal, equal), () -> b.ledger.turn(equal),
            () -> b.ledger.replace(not, not), () -> b.ledger.linear(less, -1, -1, 1, 0, 0),
            () -> b.ledger.instance(all, one)};
        for (Bench.Call rule : rules) {
            b.ledger.open();
            String clause = b.entered(rule);
            Bench.due("nothing is put before", b.clause(b.ledger.close()), clause);
        }
    }

    private static void notClosable() {
        Bench b = bench();
        assume(b, "a");
        Bench.due("the outermost", Bench.outcome(b.ledger::close), Bench.WRONG);
        b.ledger.open();
        Bench.due("no step", Bench.outcome(b.ledger::close), Bench.WRONG);
        b.ledger.open();
        assume(b, "b");
        b.ledger.close();
        Bench.due("a step by closing", b.clause(b.ledger.close()), "[(~ b), b]");
        Bench.due("the outermost again", Bench.outcome(b.ledger::close), Bench.WRONG);
    }

    private static void whatStands() {
        Bench b = bench();
        int out = assume(b, "a");
        b.ledger.open();
        int one = assume(b, "b");
        b.ledger.open();
        int two = assume(b, "(~ b)");
        Bench.due("two deep", b.ledger.scope(two), 2);
        Bench.due("the outer one stands", b.ledger.cut(one, b.read("b"), two), 3);
        b.ledger.close();
        Bench.due("closed", b.ledger.scope(two), 102);
        Bench.due("still open", b.ledger.scope(one), 1);
        int a = b.read("a");
        int not = b.read("(~ b)");
        Bench.due("widen", Bench.outcome(() -> b.ledger.widen(two, a)), Bench.MISSING);
        Bench.due("cut i", Bench.outcome(() -> b.ledger.cut(two, not, one)), Bench.MISSING);
        Bench.due("cut j", Bench.outcome(() -> b.ledger.cut(one, b.ledger.look(not, 3), two)),
                Bench.MISSING);
        b.ledger.close();
        Bench.due("closed", b.ledger.scope(one), 101);
        Bench.due("both", b.ledger.scope(two), 102);
        Bench.due("outermost", b.ledger.scope(out), 0);
        b.ledger.open();
        Bench.due("a new scope does not bring it back", b.ledger.scope(one), 101);
        Bench.due("the outermost stands in it", b.entered(() -> b.ledger.widen(out, not)),
                "[a, (~ b)]");
        Bench.due("no step", b.ledger.scope(99), -1);
        Bench.due("no step", b.ledger.scope(-1), -1);
    }

    private static void closeTooDeep() {
        Bench b = bench();
        b.ledger.open();
        int deep = b.ledger.assume(b.read("(& " + Bench.nots(10, "a") + " b)"));
        String state = b.state();
        Bench.due("too deep", Bench.outcome(b.ledger::close), Bench.TOO_GREAT);
        Bench.due("nothing has changed", b.state(), state);
        Bench.due("it is still open", b.ledger.scope(deep), 1);
        Bench.due("it is the innermost", b.ledger.open(), 2);
    }

    private static void closeWithoutRoom() {
        Bench b = bench();
        b.ledger.open();
        for (char c = 'a'; c <= 'h'; c++) {
            assume(b, String.valueOf(c));
        }
        String state = b.state();
        Bench.due("nine truths", Bench.outcome(b.ledger::close), Bench.NO_ROOM);
        Bench.due("nothing has changed", b.state(), state);
        b.ledger.widen(b.ledger.assume(b.read("(~ a)")), b.read("(~ b)"));
        Bench.due("ten truths", Bench.outcome(b.ledger::close), Bench.NO_ROOM);
        Bench eight = bench();
        eight.ledger.open();
        for (char c = 'a'; c <= 'g'; c++) {
            assume(eight, String.valueOf(c));
        }
        Bench.due("eight truths", eight.clause(eight.ledger.close()),
                "[(~ a), (~ b), (~ c), (~ d), (~ e), (~ f), (~ g), g]");
        Bench full = bench();
        full.ledger.open();
        for (int i = 0; i < 60; i++) {
            assume(full, "a");
        }
        Bench.due("61 steps", Bench.outcome(full.ledger::close), Bench.NO_ROOM);
        Bench.due("it is still open", full.ledger.scope(0), 1);
        Bench.due("no (~ a)", full.termCount(), 1);
    }

    private static void emptyClauses() {
        Bench b = bench();
        int a = b.read("a");
        int not = b.read("(~ a)");
        int i = b.ledger.assume(a);
        b.ledger.open();
        int j = b.ledger.assume(not);
        int inner = b.ledger.cut(i, a, j);
        Bench.due("no truth", b.ledger.clause(inner, -1), 0);
        Bench.due("no truth 0", b.ledger.clause(inner, 0), -1);
        Bench.due("not in the outermost scope", b.ledger.empty(), -1);
        Bench.due("what follows", b.clause(b.ledger.close()), "[a]");
        Bench.due("none yet", b.ledger.empty(), -1);
        b.ledger.open();
        b.ledger.cut(i, a, b.ledger.assume(not));
        int k = b.ledger.assume(not);
        Bench.due("none yet", b.ledger.empty(), -1);
        b.ledger.close();
        int outer = b.ledger.assume(not);
        int first = b.ledger.cut(i, a, outer);
        b.ledger.cut(outer, not, i);
        Bench.due("the first", b.ledger.empty(), first);
        Bench.due("not the one that was inside", first > k, true);
        Bench c = bench();
        int p = c.ledger.assume(c.read("a"));
        int q = c.ledger.assume(c.read("(~ a)"));
        c.ledger.open();
        c.ledger.cut(p, c.read("a"), q);
        Bench.due("inside", c.ledger.empty(), -1);
        int closed = c.ledger.close();
        Bench.due("closed with nothing assumed", c.ledger.empty(), closed);
    }
}
