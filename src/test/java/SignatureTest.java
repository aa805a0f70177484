/** Promises 1 to 4, a sentence at a time: a new object, sort, symbol, variable. */
public final class SignatureTest {
    public static void main(String[] args) {
        newObject();
        sorts();
        symbols();
        variables();
        Bench.end();
    }

    private static void newObject() {
        Bench.holds("Sorts 0 and 1, no symbols, terms or steps; the outermost scope.",
                SignatureTest::nothingIsThere);
        Bench.holds("SORTS: 0 TRUTH, 1 NUMBER, 2, 3, 4 as they are added.",
                SignatureTest::sortsAsTheyAreAdded);
        Bench.holds("each has a sort (NUMBER at first)", SignatureTest::variablesAreNumbers);
    }

    private static void sorts() {
        Bench.holds("One sort more: its number; -1, refused, if there are five.",
                SignatureTest::fiveSorts);
    }

    private static void symbols() {
        Bench.holds("SYMBOLS 0 .. 11 are written a, b, .., l;", SignatureTest::symbolLetters);
        Bench.holds("A new symbol of a sort with arguments of two sorts (-1 for none; one argument:"
                + " the first): its number;", SignatureTest::argumentsOfSymbols);
        Bench.holds("-1, refused, if sort is none", SignatureTest::symbolOfNoSort);
        Bench.holds("first or second neither a sort nor -1", SignatureTest::argumentsOfNoSort);
        Bench.holds("first is -1 and second is not", SignatureTest::secondWithoutFirst);
        Bench.holds("or there are twelve.", SignatureTest::twelveSymbols);
    }

    private static void variables() {
        Bench.holds("VARIABLES 0, 1, 2 are written x, y, z;", SignatureTest::variableLetters);
        Bench.holds("Variable v gets a sort;", SignatureTest::variablesGetSorts);
        Bench.holds("false, refused, if v is not 0 .. 2", SignatureTest::noSuchVariable);
        Bench.holds("there is no such sort, or there is a term.",
                SignatureTest::variableOfNoSort);
        Bench.holds("or there is a term.", SignatureTest::variableWhenThereIsATerm);
    }

    private static void nothingIsThere() {
        Bench b = new Bench();
        Bench.due("terms", b.termCount(), 0);
        Bench.due("steps", b.stepCount(), 0);
        Bench.due("calls that have thrown", b.thrownCount(), 0);
        Bench.due("term 0", b.look(0, 0), -2);
        Bench.due("text of term 0", b.text(0, -1), -2);
        Bench.due("clause of step 0", b.clause(0, -1), -1);
        Bench.due("scope of step 0", b.scope(0), -1);
        Bench.due("an empty clause", b.empty(), -1);
        b.refuses("a draft", b::term, Bench.WRONG);
        b.write("a");
        b.refuses("symbol a", b::term, Bench.WRONG);
        b.refuses("a scope to close", b::close, Bench.WRONG);
        b.refuses("term 0", () -> b.same(0), Bench.MISSING);
        b.assume("(< 1 2)");
        Bench.due("the scope", b.scope(0), 0);
        Bench.due("the first symbol", b.symbol(0, -1, -1), 0);
    }

    private static void sortsAsTheyAreAdded() {
        Bench b = new Bench();
        Bench.due("a truth", b.symbol(0, -1, -1), 0);
        Bench.due("a number", b.symbol(1, -1, -1), 1);
        for (int sort = 2; sort <= 4; sort++) {
            Bench.due("a symbol too early", b.symbol(sort, -1, -1), -1);
            Bench.due("an argument too early", b.symbol(0, sort, -1), -1);
            Bench.due("a variable too early", b.variable(0, sort), false);
            Bench.due("the sort", b.sort(), sort);
            Bench.due("a symbol", b.symbol(sort, sort, sort), sort);
            Bench.due("a variable", b.variable(0, sort), true);
        }
        Bench.due("(~ a)", b.look(b.read("(~ a)"), 1), 0);
        Bench.due("(+ b b)", b.look(b.read("(+ b b)"), 1), 1);
    }

    private static void variablesAreNumbers() {
        Bench b = new Bench();
        Bench.due("x", b.looks(b.read("x")), "1 1 1 -1 -1 0");
        Bench.due("y", b.looks(b.read("y")), "1 1 1 -1 -1 1");
        Bench.due("z", b.looks(b.read("z")), "1 1 1 -1 -1 2");
    }

    private static void fiveSorts() {
        Bench b = new Bench();
        for (int sort = 2; sort <= 4; sort++) {
            Bench.due("a sort", b.sort(), sort);
        }
        Bench.due("the sixth", b.sort(), -1);
        Bench.due("once more", b.sort(), -1);
        Bench.due("sort 4 is there", b.symbol(4, 4, 4), 0);
        Bench.due("sort 5 is not", b.symbol(5, -1, -1), -1);
        Bench c = new Bench();
        c.read("(+ x 1)");
        Bench.due("when there are terms, too", c.sort(), 2);
        Bench.due("a symbol of it", c.symbol(2, -1, -1), 0);
        Bench.due("a term of it", c.look(c.read("a"), 1), 2);
        Bench.due("nor for a variable", b.variable(0, 5), false);
    }

    private static void symbolLetters() {
        Bench b = new Bench().symbols(12, 0);
        for (int i = 0; i < 12; i++) {
            String letter = String.valueOf((char) ('a' + i));
            int t = b.read(letter);
            Bench.due(letter, b.looks(t), "0 0 1 -1 -1 " + i);
            Bench.due("text", b.textOf(t), letter);
        }
        Bench.due("m", b.reading("m"), Bench.WRONG);
        Bench.due("before a", b.reading("`"), Bench.WRONG);
        Bench c = new Bench();
        for (int i = 0; i < 12; i++) {
            c.symbol(1, 1, i % 2 == 0 ? -1 : 1);
        }
        for (int i = 0; i < 12; i++) {
            String text = "(" + (char) ('a' + i) + (i % 2 == 0 ? " 0)" : " 0 0)");
            int t = c.read(text);
            Bench.due(text, c.looks(t), "0 1 2 0 " + (i % 2 == 0 ? -1 : 0) + " " + i);
            Bench.due("text", c.textOf(t), text);
        }
        Bench.due("m", c.reading("(m 0)"), Bench.WRONG);
        Bench.due("before a", c.reading("(` 0)"), Bench.WRONG);
    }

    private static void argumentsOfSymbols() {
        Bench b = new Bench();
        int two = b.sort();
        Bench.due("a", b.symbol(two, -1, -1), 0);
        Bench.due("b", b.symbol(1, two, -1), 1);
        Bench.due("c", b.symbol(0, 1, two), 2);
        Bench.due("number", b.read("(c (b a) a)"), 2);
        Bench.due("a", b.looks(0), "0 2 1 -1 -1 0");
        Bench.due("(b a)", b.looks(1), "0 1 2 0 -1 1");
        Bench.due("(c (b a) a)", b.looks(2), "0 0 3 1 0 2");
        for (String text : new String[] {"(a a)", "b", "(b a a)", "c", "(c (b a))", "(c a a)",
            "(c a (b a))", "(c (b a) a a)"}) {
            Bench.due(text, b.reading(text), Bench.WRONG);
        }
        Bench.due("symbols after terms", b.symbol(two, two, two), 3);
        Bench.due("(d a a)", b.looks(b.read("(d a a)")), "0 2 2 0 0 3");
    }

    private static void symbolOfNoSort() {
        Bench b = new Bench();
        for (int sort : new int[] {-1, 2, -2, 5, Bench.LOWEST, Bench.HIGHEST}) {
            Bench.due("sort " + sort, b.symbol(sort, -1, -1), -1);
            Bench.due("sort " + sort, b.symbol(sort, 0, 1), -1);
        }
        Bench.due("none was made", b.symbol(1, 1, 1), 0);
    }

    private static void argumentsOfNoSort() {
        Bench b = new Bench();
        for (int sort : new int[] {2, -2, 5, Bench.LOWEST, Bench.HIGHEST}) {
            Bench.due("first " + sort, b.symbol(0, sort, -1), -1);
            Bench.due("first " + sort, b.symbol(0, sort, 0), -1);
            Bench.due("second " + sort, b.symbol(0, 0, sort), -1);
        }
        Bench.due("none was made", b.symbol(0, 1, 0), 0);
    }

    private static void secondWithoutFirst() {
        Bench b = new Bench();
        Bench.due("a truth", b.symbol(0, -1, 0), -1);
        Bench.due("a number", b.symbol(0, -1, 1), -1);
        Bench.due("no sort", b.symbol(0, -1, 7), -1);
        Bench.due("none was made", b.symbol(0, -1, -1), 0);
    }

    private static void twelveSymbols() {
        Bench b = new Bench();
        for (int i = 0; i < 12; i++) {
            Bench.due("symbol", b.symbol(i % 2, -1, -1), i);
        }
        Bench.due("the thirteenth", b.symbol(0, -1, -1), -1);
        Bench.due("with arguments", b.symbol(0, 0, 0), -1);
        Bench.due("l is what it was", b.looks(b.read("l")), "0 1 1 -1 -1 11");
        Bench.due("a is what it was", b.looks(b.read("a")), "0 0 1 -1 -1 0");
    }

    private static void variableLetters() {
        Bench b = new Bench();
        for (int v = 0; v < 3; v++) {
            String letter = String.valueOf((char) ('x' + v));
            int t = b.read(letter);
            Bench.due(letter, b.look(t, 5), v);
            Bench.due("text", b.textOf(t), letter);
        }
        Bench.due("w", b.reading("w"), Bench.WRONG);
        Bench.due("behind z", b.reading("{"), Bench.WRONG);
    }

    private static void variablesGetSorts() {
        Bench b = new Bench();
        b.sort();
        Bench.due("x of sort 2", b.variable(0, 2), true);
        Bench.due("y a truth", b.variable(1, 0), true);
        Bench.due("z a truth", b.variable(2, 0), true);
        Bench.due("z of sort 2 then", b.variable(2, 2), true);
        Bench.due("x", b.look(b.read("x"), 1), 2);
        Bench.due("y", b.look(b.read("y"), 1), 0);
        Bench.due("z", b.look(b.read("z"), 1), 2);
    }

    private static void noSuchVariable() {
        Bench b = new Bench();
        for (int v : new int[] {-1, 3, Bench.LOWEST, Bench.HIGHEST}) {
            Bench.due("variable " + v, b.variable(v, 0), false);
        }
        Bench.due("x", b.look(b.read("x"), 1), 1);
        Bench.due("z", b.look(b.read("z"), 1), 1);
    }

    private static void variableOfNoSort() {
        Bench b = new Bench();
        for (int sort : new int[] {-1, 2, 5, Bench.LOWEST, Bench.HIGHEST}) {
            Bench.due("sort " + sort, b.variable(0, sort), false);
        }
        Bench.due("x", b.look(b.read("x"), 1), 1);
    }

    private static void variableWhenThereIsATerm() {
        Bench b = new Bench();
        Bench.due("no text", b.reading("(~ x)"), Bench.WRONG);
        Bench.due("a call that threw made no term", b.variable(0, 0), true);
        b.write("x");
        Bench.due("a draft is no term", b.variable(2, 0), true);
        b.term();
        Bench.due("for x", b.variable(0, 1), false);
        Bench.due("for y, which is in no term", b.variable(1, 0), false);
        Bench.due("for the sort that it has", b.variable(0, 0), false);
        Bench.due("x", b.look(b.read("x"), 1), 0);
        Bench.due("y", b.look(b.read("y"), 1), 1);
        Bench.due("z", b.look(b.read("z"), 1), 0);
        Bench c = new Bench();
        c.read("1");
        Bench.due("for a variable that is in no term", c.variable(0, 0), false);
        Bench.due("x", c.look(c.read("x"), 1), 1);
    }
}
