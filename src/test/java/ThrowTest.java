/** What "Terms" says of calls that throw, a sentence at a time: the order, no trace, shut. */
public final class ThrowTest {
    public static void main(String[] args) {
        order();
        Bench.holds("A call that throws changes nothing (and makes no terms)",
                ThrowTest::nothingIsChanged);
        Bench.holds("A call that throws changes nothing (and makes no terms)",
                ThrowTest::nothingIsChangedWithoutRoom);
        Bench.holds("(and makes no terms)", ThrowTest::numbersGoOn);
        Bench.holds("(and makes no terms)", ThrowTest::nothingIsLeftOfTrials);
        Bench.holds("A call that throws changes nothing", ThrowTest::draftStays);
        Bench.holds("After 60 calls that have thrown the ledger is SHUT",
                ThrowTest::sixtyThrows);
        Bench.holds("After 60 calls that have thrown", ThrowTest::everyThrowCounts);
        Bench.holds("After 60 calls that have thrown", ThrowTest::refusalsDoNotCount);
        Bench.holds("calls that could throw (those with throws below) answer -1 then and change"
                + " nothing", ThrowTest::shutCallsChangeNothing);
        Bench.holds("and change nothing, the draft neither;", ThrowTest::shutDraftStays);
        Bench.holds("all others go on.", ThrowTest::othersGoOn);
        Bench.end();
    }

    private static void order() {
        String order = "THROWN is, of what holds, the first in this order";
        Bench.holds(order, ThrowTest::orderOfTerm);
        Bench.holds(order, ThrowTest::orderOfAssumeAndWiden);
        Bench.holds(order, ThrowTest::orderOfCut);
        Bench.holds(order, ThrowTest::orderOfMeaning);
        Bench.holds(order, ThrowTest::orderOfSameAndTurn);
        Bench.holds(order, ThrowTest::orderOfChain);
        Bench.holds(order, ThrowTest::orderOfReplace);
        Bench.holds(order, ThrowTest::orderOfLinear);
        Bench.holds(order, ThrowTest::orderOfInstance);
        Bench.holds(order, ThrowTest::orderOfClose);
    }

    private static final int NONE = 100;
    private static final String TEN = Bench.nots(10, "a");

    /** a is a truth, b a number. */
    private static Bench bench() {
        return new Bench().symbols(1, 0).symbols(1, 1);
    }

    /** There is no room for one step or one term more. */
    private static void fill(Bench b) {
        b.fillTermsTo(100);
        b.fillStepsTo(60, b.read("a"));
    }

    private static void orderOfTerm() {
        Bench b = bench();
        b.write(Bench.nots(12, "a") + ")");
        b.refuses("no text, too deep", b::term, Bench.WRONG);
        b.write("(& " + Bench.nots(11, "a") + " b)");
        b.refuses("no sort, too deep", b::term, Bench.WRONG);
        b.read("(~ a)");
        b.fillTermsTo(100);
        b.write("(+ 77 a)");
        b.refuses("no sort, no room", b::term, Bench.WRONG);
        b.write("(~ c)");
        b.refuses("no symbol, no room", b::term, Bench.WRONG);
        b.write(Bench.nots(12, "a"));
        b.refuses("too deep, no room", b::term, Bench.TOO_GREAT);
        b.write("77");
        b.refuses("no room", b::term, Bench.NO_ROOM);
    }

    private static void orderOfAssumeAndWiden() {
        Bench b = bench();
        int a = b.read("a");
        int number = b.read("b");
        b.fillStepsTo(60, a);
        b.refuses("assume: missing, no room", () -> b.assume(NONE), Bench.MISSING);
        b.refuses("assume: wrong, no room", () -> b.assume(number), Bench.WRONG);
        b.refuses("assume: no room", () -> b.assume(a), Bench.NO_ROOM);
        b.refuses("widen: i missing, t wrong", () -> b.widen(60, number), Bench.MISSING);
        b.refuses("widen: missing, no room", () -> b.widen(0, NONE), Bench.MISSING);
        b.refuses("widen: wrong, no room", () -> b.widen(0, number), Bench.WRONG);
        b.refuses("widen: no room", () -> b.widen(0, a), Bench.NO_ROOM);
        Bench wide = new Bench().symbols(8, 0).symbols(1, 1);
        int i = wide.step("a", "b", "c", "d", "e", "f", "g", "h");
        int n = wide.read("i");
        wide.refuses("widen: wrong, no room in eight", () -> wide.widen(i, n), Bench.WRONG);
        wide.refuses("widen: missing, no room in eight", () -> wide.widen(i, n + 1),
                Bench.MISSING);
    }

    private static void orderOfCut() {
        Bench b = bench();
        int a = b.read("a");
        int number = b.read("b");
        int not = b.read("(~ a)");
        b.assume(not);
        b.fillStepsTo(60, a);
        b.refuses("i missing, t wrong", () -> b.cut(60, number, 0), Bench.MISSING);
        b.refuses("j missing, t wrong", () -> b.cut(1, number, 60), Bench.MISSING);
        b.refuses("j missing, i hasn't t", () -> b.cut(0, a, -1), Bench.MISSING);
        b.refuses("t missing, no room", () -> b.cut(1, NONE, 0), Bench.MISSING);
        b.refuses("wrong, no room", () -> b.cut(1, a, 1), Bench.WRONG);
        b.refuses("a number, no room", () -> b.cut(1, number, 0), Bench.WRONG);
        b.refuses("no room", () -> b.cut(1, a, 0), Bench.NO_ROOM);
    }

    private static void orderOfMeaning() {
        Bench b = bench();
        int a = b.read("a");
        int small = b.read("(& a a)");
        int deep = b.read("(& a " + TEN + ")");
        b.refuses("missing, wrong", () -> b.meaning(NONE, 9), Bench.MISSING);
        b.refuses("which wrong, too deep", () -> b.meaning(deep, 3), Bench.WRONG);
        fill(b);
        b.refuses("missing, no room", () -> b.meaning(-1, 0), Bench.MISSING);
        b.refuses("form wrong, no room", () -> b.meaning(a, 0), Bench.WRONG);
        b.refuses("which wrong, no room", () -> b.meaning(small, 3), Bench.WRONG);
        b.refuses("too deep, no room", () -> b.meaning(deep, 0), Bench.TOO_GREAT);
        b.refuses("no room", () -> b.meaning(small, 0), Bench.NO_ROOM);
    }

    private static void orderOfSameAndTurn() {
        Bench b = bench();
        int a = b.read("a");
        int deep = b.read("(& a " + TEN + ")");
        int equal = b.read("(= a " + TEN + ")");
        int small = b.read("(= a a)");
        b.refuses("turn: form wrong, too deep", () -> b.turn(deep), Bench.WRONG);
        fill(b);
        b.refuses("same: missing, no room", () -> b.same(NONE), Bench.MISSING);
        b.refuses("same: too deep, no room", () -> b.same(deep), Bench.TOO_GREAT);
        b.refuses("same: no room", () -> b.same(a), Bench.NO_ROOM);
        b.refuses("turn: missing, no room", () -> b.turn(NONE), Bench.MISSING);
        b.refuses("turn: wrong, no room", () -> b.turn(a), Bench.WRONG);
        b.refuses("turn: too deep, no room", () -> b.turn(equal), Bench.TOO_GREAT);
        b.refuses("turn: no room", () -> b.turn(small), Bench.NO_ROOM);
    }

    private static void orderOfChain() {
        Bench b = bench();
        int a = b.read("a");
        int there = b.read("(= a " + TEN + ")");
        int back = b.read("(= " + TEN + " a)");
        int small = b.read("(= a a)");
        b.refuses("t missing, u wrong", () -> b.chain(NONE, a), Bench.MISSING);
        b.refuses("u missing, t wrong", () -> b.chain(a, NONE), Bench.MISSING);
        b.refuses("wrong, too deep", () -> b.chain(there, there), Bench.WRONG);
        b.refuses("u wrong, too deep", () -> b.chain(there, a), Bench.WRONG);
        fill(b);
        b.refuses("missing, no room", () -> b.chain(small, NONE), Bench.MISSING);
        b.refuses("wrong, no room", () -> b.chain(small, a), Bench.WRONG);
        b.refuses("too deep, no room", () -> b.chain(there, back), Bench.TOO_GREAT);
        b.refuses("no room", () -> b.chain(small, small), Bench.NO_ROOM);
    }

    private static void orderOfReplace() {
        Bench b = bench();
        int a = b.read("a");
        int and = b.read("(& a " + TEN + ")");
        int or = b.read("(| a " + TEN + ")");
        int equal = b.read("(= a " + TEN + ")");
        int numbers = b.read("(= 1 2)");
        int not = b.read("(~ a)");
        b.refuses("t missing, u wrong", () -> b.replace(NONE, a), Bench.MISSING);
        b.refuses("u missing, t wrong", () -> b.replace(a, NONE), Bench.MISSING);
        b.refuses("kinds differ, too deep", () -> b.replace(and, or), Bench.WRONG);
        b.refuses("sorts differ, too deep", () -> b.replace(equal, numbers), Bench.WRONG);
        b.refuses("sorts differ, too deep", () -> b.replace(numbers, equal), Bench.WRONG);
        fill(b);
        b.refuses("missing, no room", () -> b.replace(not, NONE), Bench.MISSING);
        b.refuses("wrong, no room", () -> b.replace(not, a), Bench.WRONG);
        b.refuses("sorts differ, no room", () -> b.replace(numbers, equal), Bench.WRONG);
        b.refuses("too deep, no room", () -> b.replace(and, and), Bench.TOO_GREAT);
        b.refuses("no room", () -> b.replace(not, not), Bench.NO_ROOM);
    }

    private static void orderOfLinear() {
        Bench b = bench();
        int a = b.read("a");
        int great = b.read("(< (* 99999 99999) b)");
        int fine = b.read("(< 1 2)");
        int not = b.read("(< 2 1)");
        b.refuses("u missing, t wrong", () -> b.linear(a, NONE, -1, 1, 1, 1), Bench.MISSING);
        b.refuses("v missing, factor wrong", () -> b.linear(fine, fine, NONE, 100, 1, 1),
                Bench.MISSING);
        b.refuses("v missing, u none", () -> b.linear(fine, -1, NONE, 1, 1, 1), Bench.MISSING);
        b.refuses("u wrong, t too great", () -> b.linear(great, a, -1, 1, 1, 1), Bench.WRONG);
        b.refuses("v wrong, t too great", () -> b.linear(great, fine, a, 1, 1, 0), Bench.WRONG);
        b.refuses("u none, t too great", () -> b.linear(great, -1, fine, 1, 1, 1), Bench.WRONG);
        b.refuses("factor wrong, too great", () -> b.linear(great, -1, -1, -1, 1, 1),
                Bench.WRONG);
        b.refuses("third factor wrong, too great", () -> b.linear(great, great, fine, 1, 1, -1),
                Bench.WRONG);
        b.refuses("too great, not granted", () -> b.linear(not, great, -1, 1, 0, 0),
                Bench.TOO_GREAT);
        b.fillStepsTo(60, a);
        b.refuses("missing, no room", () -> b.linear(NONE, -1, -1, 1, 1, 1), Bench.MISSING);
        b.refuses("wrong, no room", () -> b.linear(a, -1, -1, 1, 1, 1), Bench.WRONG);
        b.refuses("too great, no room", () -> b.linear(great, -1, -1, 1, 1, 1),
                Bench.TOO_GREAT);
        b.refuses("not granted, no room", () -> b.linear(not, -1, -1, 1, 1, 1), Bench.WRONG);
        b.refuses("no room", () -> b.linear(fine, -1, -1, 1, 1, 1), Bench.NO_ROOM);
    }

    private static void orderOfInstance() {
        Bench b = bench();
        b.symbol(1, 1, -1);
        int a = b.read("a");
        int number = b.read("b");
        int ten = b.read("(+ y " + "(c ".repeat(8) + "b" + ")".repeat(9));
        int deep = b.read("(! x " + TEN + ")");
        int put = b.read("(! x (= (c (c x)) 1))");
        int caught = b.read("(! x (! y (= (c (c x)) y)))");
        Bench.due("depth", b.look(ten, 2), 10);
        b.refuses("u missing, t wrong", () -> b.instance(a, NONE), Bench.MISSING);
        b.refuses("t missing, u wrong", () -> b.instance(NONE, a), Bench.MISSING);
        b.refuses("sort wrong, too deep", () -> b.instance(deep, a), Bench.WRONG);
        b.refuses("can't be done, too deep", () -> b.instance(caught, ten), Bench.WRONG);
        fill(b);
        b.refuses("missing, no room", () -> b.instance(put, NONE), Bench.MISSING);
        b.refuses("sort wrong, no room", () -> b.instance(put, a), Bench.WRONG);
        b.refuses("can't be done, no room", () -> b.instance(caught, ten), Bench.WRONG);
        b.refuses("opposite too deep, no room", () -> b.instance(deep, number),
                Bench.TOO_GREAT);
        b.refuses("too deep by u, no room", () -> b.instance(put, ten), Bench.TOO_GREAT);
        b.refuses("no room", () -> b.instance(put, number), Bench.NO_ROOM);
    }

    private static void orderOfClose() {
        Bench b = bench();
        b.fillStepsTo(60, b.read("a"));
        b.refuses("outermost, no room", b::close, Bench.WRONG);
        b.open();
        b.refuses("no step in itself, no room", b::close, Bench.WRONG);
        Bench deep = bench();
        deep.open();
        deep.assume("(& a " + TEN + ")");
        fill(deep);
        deep.refuses("too deep, no room", deep::close, Bench.TOO_GREAT);
        Bench nine = new Bench().symbols(9, 0);
        nine.open();
        for (String text : new String[] {"a", "b", "c", "d", "e", "f", "g", "h"}) {
            nine.assume(text);
        }
        nine.assume("(& a " + TEN + ")");
        nine.refuses("too deep, nine truths", nine::close, Bench.TOO_GREAT);
    }

    /** Calls that throw on a ledger as wrongLedger() makes it. */
    private static Bench.Call[] throwing(Bench b) {
        int a = 0;
        int number = 1;
        int and = b.read("(& a " + TEN + ")");
        int equal = b.read("(= a " + TEN + ")");
        int all = b.read("(! x " + TEN + ")");
        int caught = b.read("(! x (! y (& (< (+ x 1) x) (< x y))))");
        int y = b.read("y");
        int great = b.read("(< (* 99999 99999) b)");
        return new Bench.Call[] {() -> b.assume(-1), () -> b.assume(number),
            () -> b.cut(0, a, 9), () -> b.cut(0, a, 0), () -> b.cut(0, number, 0),
            () -> b.widen(9, a), () -> b.widen(0, number), () -> b.meaning(-1, 0),
            () -> b.meaning(and, 3), () -> b.meaning(and, 0), () -> b.same(-1),
            () -> b.same(and), () -> b.chain(-1, a), () -> b.chain(equal, a),
            () -> b.chain(equal, equal), () -> b.turn(-1), () -> b.turn(a),
            () -> b.turn(equal), () -> b.replace(-1, a), () -> b.replace(a, a),
            () -> b.replace(and, and), () -> b.linear(-1, -1, -1, 1, 1, 1),
            () -> b.linear(a, -1, -1, 1, 1, 1), () -> b.linear(great, -1, -1, 1, 1, 1),
            () -> b.linear(great, -1, -1, 100, 1, 1), () -> b.instance(-1, a),
            () -> b.instance(all, a), () -> b.instance(caught, y),
            () -> b.instance(all, number), b::close};
    }

    /** An open scope without steps of its own, so that close() throws, too. */
    private static Bench wrongLedger() {
        Bench b = bench();
        b.read("a");
        b.read("b");
        b.assume(0);
        b.open();
        return b;
    }

    private static void nothingIsChanged() {
        int count = throwing(wrongLedger()).length;
        for (int i = 0; i < count; i++) {
            Bench b = wrongLedger();
            Bench.Call call = throwing(b)[i];
            String state = b.state();
            Bench.due("call " + i, Bench.outcome(call).endsWith("Exception"), true);
            Bench.due("state after call " + i, b.state(), state);
            Bench.due("thrown", b.thrownCount(), 1);
            Bench.answers("the scope is open after call " + i, b::open, 2);
        }
    }

    private static void nothingIsChangedWithoutRoom() {
        Bench b = new Bench().symbols(9, 0);
        int i = b.step("a", "b", "c", "d", "e");
        int j = b.step("(~ a)", "f", "g", "h", "i");
        int wide = b.cut(i, b.clause(i, 0), j);
        int more = b.widen(j, b.read("(~ c)"));
        String state = b.state();
        Bench.due("widen", Bench.outcome(() -> b.widen(wide, 0)), Bench.NO_ROOM);
        Bench.due("cut", Bench.outcome(() -> b.cut(i, 0, more)), Bench.NO_ROOM);
        Bench.due("state", b.state(), state);
        Bench c = new Bench().symbols(8, 0);
        c.open();
        for (String text : new String[] {"a", "b", "c", "d", "e", "f", "g", "h"}) {
            c.assume(text);
        }
        state = c.state();
        Bench.due("close", Bench.outcome(c::close), Bench.NO_ROOM);
        Bench.due("state", c.state(), state);
        Bench.answers("the scope is open", c::open, 2);
    }

    private static void numbersGoOn() {
        Bench b = bench();
        int and = b.read("(& a " + TEN + ")");
        int next = b.termCount();
        Bench.outcome(() -> b.meaning(and, 0));
        Bench.outcome(() -> b.same(and));
        b.reading("(+ 1 (+ 2 a))");
        b.reading(Bench.nots(12, "(< 3 4)"));
        Bench.due("the next term", b.read("5"), next);
        Bench.due("one that a call would have made", b.read("(+ 1 2)"), next + 3);
        Bench.due("its parts are new", b.textOf(next + 1) + b.textOf(next + 2), "12");
    }

    /** Terms that a call would have made leave no mark on those that get their numbers. */
    private static void nothingIsLeftOfTrials() {
        String[] trials = {"(+ x a)", "(& (< x x) b)", "(~ (! x x))", "(+ (* 3/4 x) a)",
            Bench.nots(12, "(< x x)"), "(= (! x (< x y)) x)"};
        for (String trial : trials) {
            Bench b = bench();
            Bench.due(trial, b.reading(trial).endsWith("Exception"), true);
            int t = b.read("(! x (& (< 7 x) (| (= -1/3 b) a)))");
            String[] texts = {"7", "x", "(< 7 x)", "-1/3", "b", "(= -1/3 b)", "a"};
            for (int i = 0; i < texts.length; i++) {
                Bench.due("text", b.textOf(i), texts[i]);
            }
            b.enters(() -> b.instance(t, 4), "[(~ " + b.textOf(t)
                    + "), (& (< 7 b) (| (= -1/3 b) a))]");
            Bench.due("7", b.looks(0), "2 1 1 -1 -1 -1");
        }
    }

    private static void draftStays() {
        Bench b = wrongLedger();
        Bench.Call[] calls = throwing(b);
        b.write("(~ ");
        for (Bench.Call call : calls) {
            Bench.outcome(call);
        }
        Bench.due("thrown", b.thrownCount(), calls.length);
        b.write("a)");
        Bench.due("the draft", b.textOf(b.term()), "(~ a)");
    }

    private static void sixtyThrows() {
        Bench b = bench();
        int a = b.read("a");
        for (int k = 0; k < 59; k++) {
            Bench.due("throw " + k, Bench.outcome(() -> b.assume(99)), Bench.MISSING);
        }
        Bench.answers("after 59 a call goes on", () -> b.assume(a), 0);
        Bench.answers("and another", b::open, 1);
        Bench.due("the sixtieth throws", Bench.outcome(b::close), Bench.WRONG);
        Bench.due("thrown", b.thrownCount(), 60);
        Bench.answers("shut", () -> b.assume(a), -1);
        Bench.answers("shut", () -> b.assume(99), -1);
        Bench.due("no call throws then", b.thrownCount(), 60);
    }

    private static void everyThrowCounts() {
        Bench b = wrongLedger();
        Bench.Call[] calls = throwing(b);
        for (int i = 0; i < calls.length; i++) {
            Bench.outcome(calls[i]);
            Bench.due("thrown after call " + i, b.thrownCount(), i + 1);
        }
        for (int k = calls.length; k < 60; k++) {
            Bench.due("term", Bench.outcome(b::term), Bench.WRONG);
        }
        Bench.answers("shut", b::term, -1);
        Bench.due("thrown", b.thrownCount(), 60);
    }

    private static void refusalsDoNotCount() {
        Bench b = bench();
        for (int k = 0; k < 61; k++) {
            b.symbol(-1, -1, -1);
            b.variable(-1, 0);
            b.draft(0L);
            b.look(-2, 0);
            b.clause(-1, 0);
        }
        Bench.due("thrown", b.thrownCount(), 0);
        Bench.answers("not shut", () -> b.assume(b.read("a")), 0);
    }

    private static Bench shutLedger() {
        Bench b = bench();
        b.read("(= a a)");
        b.read("(< 1 2)");
        b.read("(! x a)");
        b.read("(~ (= a a))");
        b.assume(1);
        b.assume(6);
        b.open();
        b.assume(0);
        for (int k = 0; k < 60; k++) {
            Bench.due("throw", Bench.outcome(() -> b.assume(99)), Bench.MISSING);
        }
        return b;
    }

    private static void shutCallsChangeNothing() {
        Bench b = shutLedger();
        String state = b.state();
        Bench.Call[] calls = {b::term, () -> b.assume(0), () -> b.assume(2), () -> b.cut(0, 1, 1),
            () -> b.cut(0, 1, 0), () -> b.widen(0, 0), () -> b.widen(9, 0),
            () -> b.meaning(1, 0), () -> b.meaning(1, 9), () -> b.same(0), () -> b.same(-1),
            () -> b.chain(1, 1), () -> b.chain(0, 0), () -> b.turn(1), () -> b.turn(0),
            () -> b.replace(1, 1), () -> b.replace(0, 0), () -> b.linear(4, -1, -1, 1, 1, 1),
            () -> b.linear(-1, -1, -1, 1, 1, 1), () -> b.instance(5, 2), () -> b.instance(0, 0),
            b::open, b::close};
        for (int i = 0; i < calls.length; i++) {
            Bench.answers("call " + i, calls[i], -1);
        }
        Bench.due("state", b.state(), state);
        Bench.due("thrown", b.thrownCount(), 60);
        Bench.due("the scope is open", b.scope(2), 1);
    }

    private static void shutDraftStays() {
        Bench b = shutLedger();
        Bench.due("five characters", b.write("(~ a)"), true);
        Bench.answers("term", b::term, -1);
        Bench.answers("assume", () -> b.assume(0), -1);
        Bench.due("115 more", b.write(" ".repeat(115)), true);
        Bench.due("one more", b.draft(32L), false);
        Bench.answers("term", b::term, -1);
        Bench.due("it is full still", b.draft(32L), false);
    }

    private static void othersGoOn() {
        Bench b = bench();
        for (int k = 0; k < 60; k++) {
            Bench.outcome(b::term);
        }
        Bench.answers("shut", b::open, -1);
        Bench.due("sort", b.sort(), 2);
        Bench.due("symbol", b.symbol(2, 2, -1), 2);
        Bench.due("symbol refused", b.symbol(3, -1, -1), -1);
        Bench.due("variable", b.variable(0, 2), true);
        Bench.due("variable refused", b.variable(0, 3), false);
        Bench.due("draft", b.write("(~ a)"), true);
        Bench.due("draft refused", b.draft(0L), false);
        Bench c = shutLedger();
        Bench.due("clause", c.clause(0, 0) + " " + c.clause(0, -1) + " " + c.clause(3, 0),
                "1 1 -1");
        Bench.due("scope", c.scope(0) + " " + c.scope(2) + " " + c.scope(3), "0 1 -1");
        Bench.due("empty", c.empty(), -1);
        Bench.due("look", c.looks(1), "5 0 2 0 0 -1");
        Bench.due("text", c.textOf(5), "(! x a)");
        Bench.due("variable, as there are terms", c.variable(0, 1), false);
        Bench d = bench();
        d.assume("a");
        d.assume("(~ a)");
        d.cut(0, 0, 1);
        for (int k = 0; k < 60; k++) {
            Bench.outcome(d::close);
        }
        Bench.due("empty", d.empty(), 2);
        Bench.due("terms, steps, thrown", d.termCount() + " " + d.stepCount() + " "
                + d.thrownCount(), "2 3 60");
    }
}
