/** Promises 5, 6, 22 and 23: draft, term, look, text. */
public final class ReadingTest {
    public static void main(String[] args) {
        drafts();
        refusedDrafts();
        draftLimit();
        kinds();
        constants();
        textsThatAreNone();
        sortsThatDoNotFit();
        depthAndBrackets();
        keptOnce();
        hundredTerms();
        draftIsEmptied();
        looksAndTexts();
        longTexts();
        Bench.end();
    }

    private static Bench bench() {
        Bench b = new Bench();
        int two = b.ledger.sort();
        b.ledger.symbol(0, -1, -1);      // a, a truth
        b.ledger.symbol(1, -1, -1);      // b, a number
        b.ledger.symbol(two, -1, -1);    // c, of sort 2
        b.ledger.symbol(two, two, -1);   // d
        b.ledger.symbol(0, two, 1);      // e
        b.ledger.symbol(1, 0, -1);       // f
        b.ledger.variable(2, two);
        return b;
    }

    private static void drafts() {
        Bench b = bench();
        Bench.due("eight characters", b.ledger.draft(Bench.packed("(+ 1 (* ")), true);
        Bench.due("up to a zero byte", b.ledger.draft(Bench.packed("2 b))\0zz")), true);
        int t = Integer.parseInt(Bench.outcome(b.ledger::term));
        Bench.due("read", b.text(t), "(+ 1 (* 2 b))");
        Bench.due("behind a zero byte nothing counts",
                b.ledger.draft(0x8007_0000_0000_0062L), true);
        Bench.due("b", Bench.outcome(b.ledger::term), String.valueOf(b.read("b")));
    }

    private static void refusedDrafts() {
        Bench b = bench();
        b.write("b");
        Bench.due("0", b.ledger.draft(0L), false);
        Bench.due("lowest byte 0", b.ledger.draft(0x6200L), false);
        Bench.due("byte 31", b.ledger.draft(0x1F62L), false);
        Bench.due("byte 127", b.ledger.draft(0x7F62L), false);
        Bench.due("byte 255", b.ledger.draft(-1L), false);
        Bench.due("byte 128 at the top", b.ledger.draft(0x8031313131313131L), false);
        Bench.due("nothing was put behind", b.text(Integer.parseInt(
                Bench.outcome(b.ledger::term))), "b");
        Bench.due("byte 32", b.ledger.draft(32L), true);
        Bench.due("byte 126", b.ledger.draft(126L), true);
        Bench.due("no text", Bench.outcome(b.ledger::term), Bench.WRONG);
    }

    private static void draftLimit() {
        Bench b = bench();
        String long119 = "(+ b ".repeat(12).substring(0, 57) + " ".repeat(62);
        Bench.due("119", b.write(long119), true);
        Bench.due("two more", b.ledger.draft(Bench.packed("bb")), false);
        Bench.due("one more", b.ledger.draft(Bench.packed("b")), true);
        Bench.due("121", b.ledger.draft(Bench.packed("b")), false);
        Bench.outcome(b.ledger::term);
        String full = "(& (& (& a a) (& a a)) (& (& a a) (& a a)))";
        full = "(& " + full + " (& " + full + " (~ (~ (& a a)))))";
        Bench.due("length", full.length() <= 120, true);
        Bench.due("read", b.text(b.read(full)), full);
    }

    private static void kinds() {
        Bench b = bench();
        String[] texts = {"a", "b", "c", "(d c)", "(d (d z))", "(e (d c) x)", "(f a)", "x", "y",
            "z", "0", "-1", "2/3", "-12/35", "(+ b x)", "(* -2/3 b)", "(* 1 (* 0 2))", "(= c z)",
            "(= a (= b b))", "(< b 1)", "(~ a)", "(& a (~ a))", "(| a a)", "(! x a)",
            "(! z (= (d z) c))", "(! x (! x (< x y)))", "(f (! y (e c y)))"};
        for (String text : texts) {
            Bench.due("text", b.text(b.read(text)), text);
        }
        Bench.due("(d c)", b.looks(b.read("(d c)")), "0 2 2 " + b.read("c") + " -1 3");
        Bench.due("(* -2/3 b)", b.looks(b.read("(* -2/3 b)")),
                "4 1 2 " + b.read("-2/3") + " " + b.read("b") + " -1");
        Bench.due("2/3", b.looks(b.read("2/3")), "2 1 1 -1 -1 -1");
        Bench.due("(< b 1)", b.looks(b.read("(< b 1)")),
                "6 0 2 " + b.read("b") + " " + b.read("1") + " -1");
        Bench.due("(~ a)", b.looks(b.read("(~ a)")), "7 0 2 " + b.read("a") + " -1 -1");
        Bench.due("(! z ..)", b.looks(b.read("(! z (= (d z) c))")),
                "10 0 4 " + b.read("(= (d z) c)") + " -1 2");
        Bench fresh = bench();
        fresh.read("(! y (& a a))");
        Bench.due("! makes no term of its variable", fresh.termCount(), 3);
    }

    private static void constants() {
        Bench b = bench();
        String[][] pairs = {{"-0", "0"}, {"007/014", "1/2"}, {"-6/4", "-3/2"}, {"0/5", "0"},
            {"-0/00007", "0"}, {"99999", "99999"}, {"-99999/99998", "-99999/99998"},
            {"4/2", "2"}, {"00001", "1"}, {"99999/99999", "1"}, {"5/10", "1/2"}};
        for (String[] pair : pairs) {
            Bench.due(pair[0], b.text(b.read(pair[0])), pair[1]);
        }
        Bench.due("one term for one number", b.read("3/6"), b.read("1/2"));
        String[] none = {"1/0", "0/0", "1/00000", "123456", "000000", "1/123456", "+1", "1/-2",
            "-", "--1", "1/", "/2", "1/2/3", "1.5", "1 ", " 1", "- 1", "1 /2", "-/2"};
        for (String text : none) {
            Bench.due(text, b.reading(text), Bench.WRONG);
        }
    }

    private static void textsThatAreNone() {
        Bench b = bench();
        Bench.due("an empty draft", Bench.outcome(b.ledger::term), Bench.WRONG);
        String[] none = {"g", "m", "w", "A", "(g a)", "(g a a)", "(l a)", "(m a)", "(a)", "(a )",
            "d", "(d)", "(d )", "(d c c)", "(e c)", "(e c b b)", "(~a)", "(~  a)", "( ~ a)", "(~ a )", "(~ a", "(~ a))",
            "~ a", "(~ a) ", "(& a)", "(& a a a)", "(+ b)", "(+ b b", "()", "(", ")", "(!",
            "(! a)", "(! x)", "(! b a)", "(! xa)", "(! x  a)", "(! x a a)", "(! x a", "(! w a)",
            "(b)", "(1)", "(x)", "((~ a))", "(- b b)", "ab", "(> b b)"};
        for (String text : none) {
            b.read("(~ (~ a))");
            int before = b.termCount();
            Bench.due(text, b.reading(text), Bench.WRONG);
            Bench.due("terms after " + text, b.termCount(), before);
            if (b.thrownCount() == 40) {
                b = bench();
            }
        }
    }

    private static void sortsThatDoNotFit() {
        Bench b = bench();
        String[] none = {"(d a)", "(d b)", "(e b b)", "(e c c)", "(f b)", "(+ b a)", "(+ c b)",
            "(* b b)", "(* x 2)", "(* (+ 1 1) b)", "(* 2 a)", "(* 2 c)", "(= a b)", "(= c b)",
            "(= b z)", "(< a a)", "(< b c)", "(< c c)", "(~ b)", "(& a b)", "(& b a)", "(| c a)",
            "(| a x)", "(! x b)", "(! z c)"};
        for (String text : none) {
            Bench.due(text, b.reading(text), Bench.WRONG);
        }
        Bench.due("no term stays", b.termCount(), 0);
    }

    private static void depthAndBrackets() {
        Bench b = bench();
        int t = b.read(Bench.nots(11, "a"));
        Bench.due("depth 12", b.ledger.look(t, 2), 12);
        Bench.due("depth 13", b.reading(Bench.nots(12, "a")), Bench.TOO_GREAT);
        Bench.due("no term of it stays", b.termCount(), 12);
        Bench.due("brackets 13 deep", b.reading(Bench.nots(13, "a")), Bench.WRONG);
        Bench.due("too deep, and no text", b.reading(Bench.nots(12, "a") + ")"), Bench.WRONG);
        Bench.due("too deep, and no sort", b.reading("(& " + Bench.nots(11, "(~ a)") + " b)"),
                Bench.WRONG);
        Bench.due("the deeper part counts",
                b.ledger.look(b.read("(& (~ (~ a)) (~ (~ (~ a))))"), 2), 5);
        Bench.due("the first part too", b.ledger.look(b.read("(| (~ (~ a)) a)"), 2), 4);
        Bench.due("of *", b.ledger.look(b.read("(* 2 (+ 1 1))"), 2), 3);
    }

    private static void keptOnce() {
        Bench b = bench();
        Bench.due("(= (+ b 1) (+ 1 b))", b.read("(= (+ b 1) (+ 1 b))"), 4);
        String[] order = {"b", "1", "(+ b 1)", "(+ 1 b)", "(= (+ b 1) (+ 1 b))"};
        for (int t = 0; t < order.length; t++) {
            Bench.due("term " + t, b.text(t), order[t]);
            Bench.due("again " + t, b.read(order[t]), t);
        }
        Bench.due("no more terms", b.termCount(), 5);
        Bench.due("the two ! differ", b.read("(! x a)") != b.read("(! y a)"), true);
        Bench.due("x and b differ", b.read("x") != b.read("b"), true);
        Bench.due("& and | differ", b.read("(& a a)") != b.read("(| a a)"), true);
        Bench.due("2 and 1/2 differ", b.read("2") != b.read("1/2"), true);
        Bench.due("-1 and 1 differ", b.read("-1") != b.read("1"), true);
    }

    private static void hundredTerms() {
        Bench b = bench();
        for (int i = 0; i < 99; i++) {
            Bench.due("term", b.read(String.valueOf(i)), i);
        }
        Bench.due("two more", b.reading("(+ 1 200)"), Bench.NO_ROOM);
        Bench.due("nothing is made", b.termCount(), 99);
        Bench.due("one more", b.read("(+ 1 2)"), 99);
        Bench.due("no more", b.reading("200"), Bench.NO_ROOM);
        Bench.due("one that is there", b.read("(+ 1 2)"), 99);
        Bench.due("too deep is told first", b.reading(Bench.nots(12, "a")), Bench.TOO_GREAT);
        Bench.due("what is no text, before that", b.reading("(= a 1)"), Bench.WRONG);
        Bench.due("a hundred", b.termCount(), 100);
    }

    private static void draftIsEmptied() {
        Bench b = bench();
        b.read("b");
        Bench.due("after a term", Bench.outcome(b.ledger::term), Bench.WRONG);
        b.reading("(~ b)");
        Bench.due("after no text", b.text(b.read("1")), "1");
        b.reading(Bench.nots(12, "a"));
        Bench.due("after one too deep", b.text(b.read("2")), "2");
    }

    private static void looksAndTexts() {
        Bench b = bench();
        int t = b.read("(! x (< -1/2 x))");
        Bench.due("length", b.ledger.text(t, -1), 16);
        Bench.due("the last", b.ledger.text(t, 15), (int) ')');
        Bench.due("beyond", b.ledger.text(t, 16), -2);
        Bench.due("below", b.ledger.text(t, -2), -2);
        Bench.due("no term", b.ledger.text(t + 1, -1), -2);
        Bench.due("no term", b.ledger.text(-1, 0), -2);
        Bench.due("no term", b.ledger.text(Integer.MIN_VALUE, 0), -2);
        Bench.due("no char", b.ledger.text(t, Integer.MAX_VALUE), -2);
        Bench.due("what 6", b.ledger.look(t, 6), -2);
        Bench.due("what -1", b.ledger.look(t, -1), -2);
        Bench.due("no term", b.ledger.look(t + 1, 0), -2);
        Bench.due("no term", b.ledger.look(-2, 0), -2);
        Bench.due("of the ledger: 3", b.ledger.look(-1, 3), -2);
        Bench.due("of the ledger: -1", b.ledger.look(-1, -1), -2);
        b.ledger.same(t);
        Bench.outcome(b.ledger::close);
        Bench.due("terms", b.ledger.look(-1, 0), t + 2);
        Bench.due("steps", b.ledger.look(-1, 1), 1);
        Bench.due("thrown", b.ledger.look(-1, 2), 1);
    }

    /** Terms share parts, so a text can be far longer than a draft. */
    private static void longTexts() {
        Bench b = bench();
        int t = b.read("a");
        String want = "a";
        for (int depth = 2; depth <= 12; depth++) {
            int step = b.ledger.same(t);
            t = b.ledger.clause(step, 0);
            want = "(= " + want + " " + want + ")";
        }
        Bench.due("depth", b.ledger.look(t, 2), 12);
        Bench.due("length", b.ledger.text(t, -1), want.length());
        Bench.due("text", b.text(t), want);
    }
}
