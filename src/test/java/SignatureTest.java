/** Promises 1 to 4: a new object, sort, symbol, variable. */
public final class SignatureTest {
    public static void main(String[] args) {
        newObject();
        sorts();
        symbols();
        refusedSymbols();
        variables();
        refusedVariables();
        Bench.end();
    }

    private static void newObject() {
        Bench b = new Bench();
        Bench.due("no terms", b.termCount(), 0);
        Bench.due("no steps", b.stepCount(), 0);
        Bench.due("none thrown", b.thrownCount(), 0);
        Bench.due("no empty clause", b.ledger.empty(), -1);
        Bench.due("no symbols", b.reading("a"), Bench.WRONG);
        Bench.due("no draft", Bench.outcome(b.ledger::term), Bench.WRONG);
        Bench.due("outermost scope", Bench.outcome(b.ledger::close), Bench.WRONG);
        int x = b.read("x");
        Bench.due("x is a number", b.ledger.look(x, 1), 1);
        Bench.due("z is a number", b.ledger.look(b.read("z"), 1), 1);
        int t = b.read("(< 1 2)");
        b.ledger.assume(t);
        Bench.due("in the outermost scope", b.ledger.scope(0), 0);
    }

    private static void sorts() {
        Bench b = new Bench();
        Bench.due("sort 2 is not there", b.ledger.symbol(2, -1, -1), -1);
        Bench.due("third", b.ledger.sort(), 2);
        Bench.due("sort 2 is there", b.ledger.symbol(2, -1, -1), 0);
        Bench.due("fourth", b.ledger.sort(), 3);
        Bench.due("fifth", b.ledger.sort(), 4);
        Bench.due("sixth", b.ledger.sort(), -1);
        Bench.due("again", b.ledger.sort(), -1);
        Bench.due("sort 4", b.ledger.symbol(4, 4, 4), 1);
        Bench.due("no sort 5", b.ledger.symbol(5, -1, -1), -1);
    }

    private static void symbols() {
        Bench b = new Bench();
        int two = b.ledger.sort();
        Bench.due("a", b.ledger.symbol(two, -1, -1), 0);
        Bench.due("b", b.ledger.symbol(1, two, -1), 1);
        Bench.due("c", b.ledger.symbol(0, 1, two), 2);
        int t = b.read("(c (b a) a)");
        Bench.due("numbers of parts", t, 2);
        Bench.due("a", b.looks(0), "0 2 1 -1 -1 0");
        Bench.due("b", b.looks(1), "0 1 2 0 -1 1");
        Bench.due("c", b.looks(2), "0 0 3 1 0 2");
        for (int i = 3; i < 12; i++) {
            Bench.due("symbol " + i, b.ledger.symbol(0, -1, -1), i);
        }
        Bench.due("the thirteenth", b.ledger.symbol(0, -1, -1), -1);
        Bench.due("l", b.ledger.look(b.read("l"), 5), 11);
    }

    private static void refusedSymbols() {
        Bench b = new Bench();
        int[][] refused = {{-1, -1, -1}, {2, -1, -1}, {-2, -1, -1}, {0, 2, -1}, {0, -2, -1},
            {0, 0, 2}, {0, 0, -2}, {0, -1, 0}, {0, -1, 1}, {0, -1, 7}};
        for (int[] r : refused) {
            Bench.due("symbol(" + r[0] + ", " + r[1] + ", " + r[2] + ")",
                    b.ledger.symbol(r[0], r[1], r[2]), -1);
        }
        Bench.due("none was made", b.ledger.symbol(0, 0, 0), 0);
    }

    private static void variables() {
        Bench b = new Bench();
        int two = b.ledger.sort();
        Bench.due("x of sort 2", b.ledger.variable(0, two), true);
        Bench.due("y a truth", b.ledger.variable(1, 0), true);
        Bench.due("z of sort 2", b.ledger.variable(2, two), true);
        Bench.due("z a number again", b.ledger.variable(2, 1), true);
        Bench.due("a text that is none makes no term", b.reading("(~ x)"), Bench.WRONG);
        Bench.due("y a truth", b.ledger.variable(1, 0), true);
        Bench.due("x", b.looks(b.read("x")), "1 2 1 -1 -1 0");
        Bench.due("y", b.looks(b.read("y")), "1 0 1 -1 -1 1");
        Bench.due("z", b.looks(b.read("z")), "1 1 1 -1 -1 2");
        Bench.due("there is a term", b.ledger.variable(0, two), false);
        Bench.due("x is what it was", b.ledger.look(0, 1), 2);
    }

    private static void refusedVariables() {
        Bench b = new Bench();
        Bench.due("variable -1", b.ledger.variable(-1, 1), false);
        Bench.due("variable 3", b.ledger.variable(3, 1), false);
        Bench.due("sort -1", b.ledger.variable(0, -1), false);
        Bench.due("sort 2", b.ledger.variable(0, 2), false);
        b.ledger.sort();
        Bench.due("sort 2 is there now", b.ledger.variable(0, 2), true);
        b.read("1");
        Bench.due("there is a term", b.ledger.variable(0, 1), false);
        Bench.due("x is still of sort 2", b.ledger.look(b.read("x"), 1), 2);
    }
}
