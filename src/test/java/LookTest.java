/** Promises 22 and 23, a sentence at a time: look, text. */
public final class LookTest {
    public static void main(String[] args) {
        Bench.holds("Of a term: what 0 its kind, 1 its sort, 2 its depth, 3 and 4 the numbers of"
                + " its parts (-1 for none), 5 its symbol or variable (that of ! too), else -1.",
                LookTest::looksOfTerms);
        Bench.holds("-2 if there is no such term or what.", LookTest::noSuchTermOrWhat);
        Bench.holds("With t = -1: how many terms (what 0), steps (1), calls that have thrown (2).",
                LookTest::looksOfTheLedger);
        Bench.holds("Character i (from 0) of the text of a term;", LookTest::characters);
        Bench.holds("a constant as p, or p/q if q is not 1, in decimal digits, with - before them"
                + " if it is below 0", LookTest::constants);
        Bench.holds("how many it has if i is -1;", LookTest::lengths);
        Bench.holds("-2 if there is no such term or character.", LookTest::noSuchCharacter);
        Bench.end();
    }

    private static void looksOfTerms() {
        Bench b = new Bench();
        int two = b.sort();
        b.symbol(two, -1, -1);
        b.symbol(1, two, -1);
        b.symbol(0, two, 1);
        b.read("(! y (~ (& (< (b a) (* 1/2 x)) (| (= (+ x x) -3) (c a x)))))");
        String[] looks = {"0 2 1 -1 -1 0", "0 1 2 0 -1 1", "2 1 1 -1 -1 -1", "1 1 1 -1 -1 0",
            "4 1 2 2 3 -1", "6 0 3 1 4 -1", "3 1 2 3 3 -1", "2 1 1 -1 -1 -1", "5 0 3 6 7 -1",
            "0 0 2 0 3 2", "9 0 4 8 9 -1", "8 0 5 5 10 -1", "7 0 6 11 -1 -1", "10 0 7 12 -1 1"};
        Bench.due("terms", b.termCount(), looks.length);
        for (int t = 0; t < looks.length; t++) {
            Bench.due("term " + t, b.looks(t), looks[t]);
        }
    }

    private static void noSuchTermOrWhat() {
        Bench b = new Bench();
        b.read("(+ x 1)");
        for (int what = 0; what <= 5; what++) {
            for (int t : new int[] {3, -2, 100, Bench.LOWEST, Bench.HIGHEST}) {
                Bench.due("term " + t + ", " + what, b.look(t, what), -2);
            }
        }
        for (int what : new int[] {-1, 6, Bench.LOWEST, Bench.HIGHEST}) {
            Bench.due("what " + what, b.look(0, what), -2);
            Bench.due("what " + what + " of the last", b.look(2, what), -2);
            Bench.due("what " + what + " of none", b.look(3, what), -2);
        }
        for (int what : new int[] {-1, 3, 4, 5, Bench.LOWEST, Bench.HIGHEST}) {
            Bench.due("what " + what + " of the ledger", b.look(-1, what), -2);
        }
    }

    private static void looksOfTheLedger() {
        Bench b = new Bench();
        Bench.due("at first", b.look(-1, 0) + " " + b.look(-1, 1) + " " + b.look(-1, 2), "0 0 0");
        b.read("(+ x 1)");
        b.same(0);
        b.same(0);
        Bench.outcome(b::term);
        Bench.outcome(() -> b.assume(0));
        Bench.outcome(b::close);
        Bench.due("terms", b.look(-1, 0), 4);
        Bench.due("steps", b.look(-1, 1), 2);
        Bench.due("calls that have thrown", b.look(-1, 2), 3);
        b.open();
        b.assume(3);
        b.close();
        Bench.due("steps that do not stand, too", b.look(-1, 1), 4);
        b.sort();
        for (int i = 0; i < 4; i++) {
            b.sort();
        }
        Bench.due("refused calls have not thrown", b.look(-1, 2), 3);
    }

    private static void characters() {
        Bench b = new Bench().symbols(2, 0);
        b.symbol(0, 0, 0);
        String[] texts = {"a", "(c (c a b) (~ b))", "(! x (! z (c a (c b a))))",
            "(< (+ x (* 1/2 y)) -12/35)", "(= (& a b) (| b a))"};
        for (String text : texts) {
            Bench.due("text", b.textOf(b.read(text)), text);
        }
    }

    private static void constants() {
        Bench b = new Bench();
        String[] texts = {"0", "7", "10", "-1", "-10", "99999", "-99999", "1/2", "-1/2",
            "99999/99998", "-99998/99999", "100/99999", "10000/9", "-9/10000"};
        for (String text : texts) {
            Bench.due("text", b.textOf(b.read(text)), text);
        }
        int t = b.read("(+ 12/5 -7)");
        Bench.due("inside a term", b.textOf(t), "(+ 12/5 -7)");
        Bench.due("without what was read too much", b.textOf(b.read("-0020/0030")), "-2/3");
    }

    private static void lengths() {
        Bench b = new Bench().symbols(1, 0);
        b.symbol(0, 0, 0);
        String[] texts = {"a", "x", "-1/2", "12345", "(~ a)", "(b a (~ a))", "(! x (< -1/2 x))",
            "(* 1/2 (+ 1 x))"};
        for (String text : texts) {
            Bench.due("length of " + text, b.text(b.read(text), -1), text.length());
        }
        // Terms share parts, so a text can be far longer than a draft.
        int t = b.read("a");
        int length = 1;
        for (int depth = 2; depth <= 12; depth++) {
            t = b.clause(b.same(t), 0);
            length = 2 * length + 5;
            Bench.due("length at depth " + depth, b.text(t, -1), length);
        }
        String[] ends = {"(= (= (= (=", "a a)))))))))))"};
        for (int i = 0; i < ends[0].length(); i++) {
            Bench.due("character " + i, b.text(t, i), (int) ends[0].charAt(i));
        }
        int from = length - ends[1].length();
        for (int i = 0; i < ends[1].length(); i++) {
            Bench.due("character " + (from + i), b.text(t, from + i), (int) ends[1].charAt(i));
        }
        Bench.due("beyond", b.text(t, length), -2);
    }

    private static void noSuchCharacter() {
        Bench b = new Bench();
        int t = b.read("(< -1/2 x)");
        Bench.due("the first", b.text(t, 0), (int) '(');
        Bench.due("the last", b.text(t, 9), (int) ')');
        for (int i : new int[] {10, 11, -2, Bench.LOWEST, Bench.HIGHEST}) {
            Bench.due("character " + i, b.text(t, i), -2);
        }
        for (int none : new int[] {t + 1, -1, -2, Bench.LOWEST, Bench.HIGHEST}) {
            Bench.due("term " + none, b.text(none, 0), -2);
            Bench.due("length of term " + none, b.text(none, -1), -2);
            Bench.due("neither", b.text(none, -2), -2);
        }
        Bench.due("the end of a constant", b.text(b.read("-1/2"), 4), -2);
        Bench.due("the end of a variable", b.text(b.read("x"), 1), -2);
    }
}
