/** Promises 11 to 14: same, chain, turn, replace. */
public final class EqualityTest {
    public static void main(String[] args) {
        same();
        chain();
        chainNotGranted();
        turn();
        replace();
        replaceConnectives();
        replaceNotGranted();
        orderOfNewTerms();
        tooDeep();
        noRoom();
        Bench.end();
    }

    /** a, b, c of sort 2; d one argument, e two; f, g truths; h, i numbers. */
    private static Bench bench() {
        Bench b = new Bench();
        int two = b.ledger.sort();
        for (int i = 0; i < 3; i++) {
            b.ledger.symbol(two, -1, -1);
        }
        b.ledger.symbol(two, two, -1);
        b.ledger.symbol(two, two, two);
        b.ledger.symbol(0, -1, -1);
        b.ledger.symbol(0, -1, -1);
        b.ledger.symbol(1, -1, -1);
        b.ledger.symbol(1, -1, -1);
        b.ledger.variable(0, two);
        return b;
    }

    private static void same() {
        Bench b = bench();
        for (String text : new String[] {"a", "f", "h", "x", "1/2", "(~ f)", "(! y f)"}) {
            int t = b.read(text);
            Bench.due(text, b.entered(() -> b.ledger.same(t)), "[(= " + text + " " + text + ")]");
        }
        Bench.due("no term", Bench.outcome(() -> b.ledger.same(99)), Bench.MISSING);
        Bench.due("no term", Bench.outcome(() -> b.ledger.same(-1)), Bench.MISSING);
    }

    private static void chain() {
        Bench b = bench();
        int ab = b.read("(= a b)");
        int bc = b.read("(= b c)");
        int ba = b.read("(= b a)");
        int aa = b.read("(= a a)");
        Bench.due("a b c", b.entered(() -> b.ledger.chain(ab, bc)),
                "[(~ (= a b)), (~ (= b c)), (= a c)]");
        Bench.due("a b a", b.entered(() -> b.ledger.chain(ab, ba)),
                "[(~ (= a b)), (~ (= b a)), (= a a)]");
        Bench.due("a a a", b.entered(() -> b.ledger.chain(aa, aa)), "[(~ (= a a)), (= a a)]");
        Bench.due("a a b", b.entered(() -> b.ledger.chain(aa, ab)),
                "[(~ (= a a)), (~ (= a b)), (= a b)]");
        int fg = b.read("(= f g)");
        int gf = b.read("(= g (~ f))");
        Bench.due("truths", b.entered(() -> b.ledger.chain(fg, gf)),
                "[(~ (= f g)), (~ (= g (~ f))), (= f (~ f))]");
    }

    private static void chainNotGranted() {
        Bench b = bench();
        int ab = b.read("(= a b)");
        int ac = b.read("(= a c)");
        int less = b.read("(< h h)");
        int hh = b.read("(= h h)");
        int not = b.read("(~ (= b c))");
        String state = b.state();
        Bench.due("b is not a", Bench.outcome(() -> b.ledger.chain(ab, ac)), Bench.WRONG);
        Bench.due("itself", Bench.outcome(() -> b.ledger.chain(ab, ab)), Bench.WRONG);
        Bench.due("first no =", Bench.outcome(() -> b.ledger.chain(less, hh)), Bench.WRONG);
        Bench.due("second no =", Bench.outcome(() -> b.ledger.chain(hh, less)), Bench.WRONG);
        Bench.due("an opposite", Bench.outcome(() -> b.ledger.chain(ab, not)), Bench.WRONG);
        Bench.due("no term t", Bench.outcome(() -> b.ledger.chain(99, less)), Bench.MISSING);
        Bench.due("no term u", Bench.outcome(() -> b.ledger.chain(less, -1)), Bench.MISSING);
        Bench.due("nothing has changed", b.state(), state);
    }

    private static void turn() {
        Bench b = bench();
        int ab = b.read("(= a b)");
        int hh = b.read("(= h h)");
        int f = b.read("f");
        Bench.due("a b", b.entered(() -> b.ledger.turn(ab)), "[(~ (= a b)), (= b a)]");
        Bench.due("h h", b.entered(() -> b.ledger.turn(hh)), "[(~ (= h h)), (= h h)]");
        Bench.due("no =", Bench.outcome(() -> b.ledger.turn(f)), Bench.WRONG);
        Bench.due("an opposite", Bench.outcome(() -> b.ledger.turn(b.ledger.clause(0, 0))),
                Bench.WRONG);
        Bench.due("no term", Bench.outcome(() -> b.ledger.turn(99)), Bench.MISSING);
        Bench.due("no term", Bench.outcome(() -> b.ledger.turn(-1)), Bench.MISSING);
    }

    private static void replace() {
        Bench b = bench();
        int da = b.read("(d a)");
        int db = b.read("(d b)");
        int eab = b.read("(e a b)");
        int eac = b.read("(e a c)");
        int eba = b.read("(e b a)");
        int ebb = b.read("(e b b)");
        int eaa = b.read("(e a a)");
        Bench.due("d", b.entered(() -> b.ledger.replace(da, db)),
                "[(~ (= a b)), (= (d a) (d b))]");
        Bench.due("the second part", b.entered(() -> b.ledger.replace(eab, eac)),
                "[(~ (= b c)), (= (e a b) (e a c))]");
        Bench.due("the first part", b.entered(() -> b.ledger.replace(eab, ebb)),
                "[(~ (= a b)), (= (e a b) (e b b))]");
        Bench.due("both", b.entered(() -> b.ledger.replace(eab, eba)),
                "[(~ (= a b)), (~ (= b a)), (= (e a b) (e b a))]");
        Bench.due("twice the same", b.entered(() -> b.ledger.replace(eaa, ebb)),
                "[(~ (= a b)), (= (e a a) (e b b))]");
        Bench.due("itself", b.entered(() -> b.ledger.replace(eab, eab)),
                "[(= (e a b) (e a b))]");
    }

    private static void replaceConnectives() {
        Bench b = bench();
        String[][] pairs = {
            {"(+ h 1)", "(+ i 1)", "[(~ (= h i)), (= (+ h 1) (+ i 1))]"},
            {"(* 2 h)", "(* 3 h)", "[(~ (= 2 3)), (= (* 2 h) (* 3 h))]"},
            {"(= f g)", "(= g f)", "[(~ (= f g)), (~ (= g f)), (= (= f g) (= g f))]"},
            {"(< h 1)", "(< h i)", "[(~ (= 1 i)), (= (< h 1) (< h i))]"},
            {"(~ f)", "(~ g)", "[(~ (= f g)), (= (~ f) (~ g))]"},
            {"(& f g)", "(& f f)", "[(~ (= g f)), (= (& f g) (& f f))]"},
            {"(| f g)", "(| g g)", "[(~ (= f g)), (= (| f g) (| g g))]"}};
        for (String[] pair : pairs) {
            int t = b.read(pair[0]);
            int u = b.read(pair[1]);
            Bench.due(pair[0], b.entered(() -> b.ledger.replace(t, u)), pair[2]);
        }
    }

    private static void replaceNotGranted() {
        Bench b = bench();
        b.ledger.symbol(2, 2, -1);
        String[][] pairs = {{"a", "a"}, {"a", "b"}, {"x", "x"}, {"1", "1"}, {"1", "2"},
            {"(! x f)", "(! x f)"}, {"(! x f)", "(! x g)"}, {"(d a)", "(j a)"},
            {"(& f g)", "(| f g)"}, {"(= f g)", "(= a b)"}, {"(= h i)", "(= a b)"},
            {"(d a)", "a"}, {"(~ f)", "(! x f)"}, {"(< h i)", "(= h i)"}, {"(e a b)", "(d a)"}};
        for (String[] pair : pairs) {
            int t = b.read(pair[0]);
            int u = b.read(pair[1]);
            int before = b.termCount();
            Bench.due(pair[0] + " " + pair[1], Bench.outcome(() -> b.ledger.replace(t, u)),
                    Bench.WRONG);
            Bench.due("nothing is made", b.termCount(), before);
        }
        int a = b.read("a");
        Bench.due("no term t", Bench.outcome(() -> b.ledger.replace(99, a)), Bench.MISSING);
        Bench.due("no term u", Bench.outcome(() -> b.ledger.replace(a, -1)), Bench.MISSING);
        Bench.due("no steps", b.stepCount(), 0);
    }

    private static void orderOfNewTerms() {
        Bench b = bench();
        int t = b.read("(e a b)");
        int u = b.read("(e b a)");
        b.ledger.replace(t, u);
        String[] made = {"(= a b)", "(~ (= a b))", "(= b a)", "(~ (= b a))",
            "(= (e a b) (e b a))"};
        for (int i = 0; i < made.length; i++) {
            Bench.due("replace makes", b.text(u + 1 + i), made[i]);
        }
        Bench c = bench();
        int ab = c.read("(= a b)");
        int bc = c.read("(= b c)");
        c.ledger.chain(ab, bc);
        Bench.due("chain makes", c.text(bc + 1), "(~ (= a b))");
        Bench.due("chain makes", c.text(bc + 2), "(~ (= b c))");
        Bench.due("chain makes", c.text(bc + 3), "(= a c)");
    }

    private static void tooDeep() {
        Bench b = bench();
        int eleven = b.read(Bench.nots(10, "f"));
        int twelve = b.read("(~ " + Bench.nots(10, "f") + ")");
        int other = b.read(Bench.nots(11, "g"));
        Bench.due("same of depth 11", b.ledger.same(eleven), 0);
        int before = b.termCount();
        Bench.due("same of depth 12", Bench.outcome(() -> b.ledger.same(twelve)),
                Bench.TOO_GREAT);
        Bench.due("replace", Bench.outcome(() -> b.ledger.replace(twelve, other)),
                Bench.TOO_GREAT);
        int equal = b.ledger.clause(0, 0);
        Bench.due("turn", Bench.outcome(() -> b.ledger.turn(equal)), Bench.TOO_GREAT);
        Bench.due("chain", Bench.outcome(() -> b.ledger.chain(equal, equal)), Bench.TOO_GREAT);
        Bench.due("nothing is made", b.termCount(), before);
    }

    private static void noRoom() {
        Bench b = bench();
        int t = b.read("(e a b)");
        int u = b.read("(e b a)");
        for (int i = 0; b.termCount() < 96; i++) {
            b.read(String.valueOf(i));
        }
        Bench.due("five terms more", Bench.outcome(() -> b.ledger.replace(t, u)), Bench.NO_ROOM);
        Bench.due("none is made", b.termCount(), 96);
        Bench.due("one term more", Bench.outcome(() -> b.ledger.same(t)), 0);
        Bench.due("97", b.termCount(), 97);
    }
}
