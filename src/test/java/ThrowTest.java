/** What "THROWN" says: the order, that nothing changes, and when the ledger is shut. */
public final class ThrowTest {
    public static void main(String[] args) {
        order();
        nothingChanges();
        shut();
        shutFiftyNine();
        Bench.end();
    }

    private static Bench bench() {
        Bench b = new Bench();
        b.ledger.symbol(0, -1, -1);
        b.ledger.symbol(1, -1, -1);
        return b;
    }

    private static void order() {
        Bench b = bench();
        int number = b.read("b");
        int a = b.read("a");
        int deep = b.read(Bench.nots(11, "a"));
        for (int i = 0; i < 60; i++) {
            b.ledger.assume(a);
        }
        Bench.due("missing before wrong", Bench.outcome(() -> b.ledger.widen(60, number)),
                Bench.MISSING);
        Bench.due("wrong before no room", Bench.outcome(() -> b.ledger.widen(0, number)),
                Bench.WRONG);
        Bench.due("too deep before no room", Bench.outcome(() -> b.ledger.same(deep)),
                Bench.TOO_GREAT);
        Bench.due("missing before no room", Bench.outcome(() -> b.ledger.same(99)),
                Bench.MISSING);
        Bench.due("no room", Bench.outcome(() -> b.ledger.same(a)), Bench.NO_ROOM);
        Bench.due("wrong before no room", Bench.outcome(b.ledger::close), Bench.WRONG);
        Bench.due("thrown", b.thrownCount(), 6);
    }

    private static void nothingChanges() {
        Bench b = bench();
        int t = b.read("(& a (~ a))");
        int i = b.ledger.assume(t);
        b.write("(~ ");
        String state = b.state();
        Bench.outcome(() -> b.ledger.assume(99));
        Bench.outcome(() -> b.ledger.meaning(t, 3));
        Bench.outcome(() -> b.ledger.cut(i, t, i));
        Bench.outcome(() -> b.ledger.instance(t, t));
        Bench.outcome(() -> b.ledger.linear(t, -1, -1, 0, 0, 0));
        Bench.outcome(b.ledger::close);
        Bench.due("state", b.state(), state);
        Bench.due("thrown", b.thrownCount(), 6);
        b.write("a)");
        Bench.due("the draft", b.text(b.ledger.term()), "(~ a)");
        b.read("(~ (& a (~ a)))");
        int before = b.termCount();
        Bench.outcome(() -> b.ledger.meaning(t, 9));
        b.ledger.same(t);
        Bench.due("the next term has the next number", b.ledger.clause(1, 0), before);
    }

    private static void shut() {
        Bench b = bench();
        int a = b.read("a");
        int i = b.ledger.assume(a);
        b.ledger.open();
        int j = b.ledger.assume(a);
        for (int k = 0; k < 60; k++) {
            Bench.due("throw " + k, Bench.outcome(() -> b.ledger.assume(99)), Bench.MISSING);
        }
        b.write("(~ a)");
        String state = b.state();
        Bench.due("term", Bench.outcome(b.ledger::term), -1);
        Bench.due("assume", Bench.outcome(() -> b.ledger.assume(a)), -1);
        Bench.due("assume", Bench.outcome(() -> b.ledger.assume(99)), -1);
        Bench.due("cut", Bench.outcome(() -> b.ledger.cut(i, a, j)), -1);
        Bench.due("widen", Bench.outcome(() -> b.ledger.widen(i, a)), -1);
        Bench.due("meaning", Bench.outcome(() -> b.ledger.meaning(a, 0)), -1);
        Bench.due("same", Bench.outcome(() -> b.ledger.same(a)), -1);
        Bench.due("chain", Bench.outcome(() -> b.ledger.chain(a, a)), -1);
        Bench.due("turn", Bench.outcome(() -> b.ledger.turn(a)), -1);
        Bench.due("replace", Bench.outcome(() -> b.ledger.replace(a, a)), -1);
        Bench.due("linear", Bench.outcome(() -> b.ledger.linear(a, -1, -1, 1, 1, 1)), -1);
        Bench.due("instance", Bench.outcome(() -> b.ledger.instance(a, a)), -1);
        Bench.due("open", Bench.outcome(b.ledger::open), -1);
        Bench.due("close", Bench.outcome(b.ledger::close), -1);
        Bench.due("nothing has changed", b.state(), state);
        Bench.due("thrown", b.thrownCount(), 60);
        Bench.due("the scope is open", b.ledger.scope(j), 1);
        Bench.due("sort goes on", b.ledger.sort(), 2);
        Bench.due("symbol goes on", b.ledger.symbol(2, -1, -1), 2);
        Bench.due("variable goes on", b.ledger.variable(0, 1), false);
        String rest = " ".repeat(115);
        Bench.due("the draft has five characters still", b.write(rest), true);
        Bench.due("and no room then", b.ledger.draft(32L), false);
    }

    private static void shutFiftyNine() {
        Bench b = bench();
        int a = b.read("a");
        for (int k = 0; k < 59; k++) {
            Bench.outcome(b.ledger::term);
        }
        Bench.due("not yet", Bench.outcome(() -> b.ledger.assume(a)), 0);
        Bench.due("the sixtieth throws", Bench.outcome(b.ledger::close), Bench.WRONG);
        Bench.due("shut", Bench.outcome(() -> b.ledger.assume(a)), -1);
    }
}
