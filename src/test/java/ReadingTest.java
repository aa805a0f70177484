/** Promise 6, and what "Terms" says of kinds, depths, numbers and texts, a sentence at a time. */
public final class ReadingTest {
    public static void main(String[] args) {
        kinds();
        numbers();
        texts();
        constants();
        term();
        Bench.end();
    }

    private static void kinds() {
        Bench.holds("0 a symbol with its arguments, of its sorts: its sort.", () -> {
            fits(0, 2, "c", "(d c)", "(d (d z))");
            fits(0, 0, "a", "(e (d c) x)", "(e z (f a))");
            fits(0, 1, "b", "(f a)", "(f (~ a))");
            doesNotFit("(d a)", "(d b)", "(e b b)", "(e c c)", "(e c a)", "(f b)", "(f c)");
        });
        Bench.holds("1 a variable: its sort.", () -> {
            fits(1, 1, "x", "y");
            fits(1, 2, "z");
            doesNotFit("(= z 1)", "(= x c)", "(~ x)", "(+ x z)", "(d x)");
        });
        Bench.holds("2 a CONSTANT p/q, q above 0, without a common factor above 1: a number.",
                () -> fits(2, 1, "0", "-1", "2/3", "-12/35"));
        Bench.holds("3 + of two numbers: a number.", () -> {
            fits(3, 1, "(+ b x)", "(+ 1 -1/2)", "(+ (f a) (+ b b))");
            doesNotFit("(+ b a)", "(+ a b)", "(+ c b)", "(+ b c)", "(+ z b)");
        });
        Bench.holds("4 * of a constant and a number: a number.", () -> {
            fits(4, 1, "(* -2/3 b)", "(* 0 x)", "(* 1 (* 0 2))", "(* 2 3)");
            doesNotFit("(* b b)", "(* b 2)", "(* x 2)", "(* (+ 1 1) b)", "(* (* 1 1) b)",
                    "(* 2 a)", "(* 2 c)", "(* a 2)");
        });
        Bench.holds("5 = of two terms of one sort: a truth.", () -> {
            fits(5, 0, "(= c z)", "(= a (= b b))", "(= b 1)", "(= a a)");
            doesNotFit("(= a b)", "(= b a)", "(= c b)", "(= b z)", "(= c a)");
        });
        Bench.holds("6 < of two numbers (less or equal): a truth.", () -> {
            fits(6, 0, "(< b 1)", "(< (+ b b) (* 2 b))");
            doesNotFit("(< a a)", "(< a b)", "(< b a)", "(< b c)", "(< c c)");
        });
        Bench.holds("7 ~ of a truth;", () -> {
            fits(7, 0, "(~ a)", "(~ (~ a))");
            doesNotFit("(~ b)", "(~ c)", "(~ 1)", "(~ z)");
        });
        Bench.holds("8 & and 9 | of two truths: truths.", () -> {
            fits(8, 0, "(& a (~ a))", "(& (| a a) a)");
            fits(9, 0, "(| a a)", "(| (& a a) a)");
            doesNotFit("(& a b)", "(& b a)", "(& c c)", "(| c a)", "(| a x)", "(| 1 1)");
        });
        Bench.holds("10 ! of a variable and a truth (for all), whose one part is the truth:"
                + " a truth.", () -> {
            fits(10, 0, "(! x a)", "(! z (= (d z) c))", "(! x (! x (< x x)))");
            doesNotFit("(! x b)", "(! z c)", "(! x x)", "(! a a)", "(! b a)", "(! 1 a)",
                    "(! (~ a) a)", "(! x a a)", "(! x)", "(! a)");
            forAll();
        });
    }

    private static void numbers() {
        Bench.holds("The DEPTH of a term is 1, and 1 more than the greatest of its parts' depths"
                + " if it has parts; at most 12.", ReadingTest::depths);
        Bench.holds("at most 12.", ReadingTest::depthTwelve);
        Bench.holds("Terms are numbered 0, 1, .. as they are made, parts before the whole,"
                + " the first part before the second;", ReadingTest::numbersInOrder);
        Bench.holds("one that is there already is not made again.", ReadingTest::keptOnce);
        Bench.holds("one that is there already is not made again.", ReadingTest::whatDiffers);
        Bench.holds("There are at most 100.", ReadingTest::hundredTerms);
    }

    private static void texts() {
        Bench.holds("a letter a .. l if it is a symbol without arguments;",
                () -> isNoText("(a)", "(a )", "( a)", "(b)", "d", "e", "f", "A", "m"));
        Bench.holds("( and the letter, then for each argument a blank and the argument, and );",
                () -> isNoText("(d)", "(d )", "(d c c)", "(d c )", "(dc)", "(e c)", "(e c b b)",
                        "(e  c b)", "(e c  b)", "(e c b )", "(e c b", "(ec b)", "( d c)"));
        Bench.holds("(+ t u), (* c t), (= t u), (< t u), (~ t), (& t u), (| t u), (! v t)",
                () -> isNoText("(~)", "(~ )", "(~ a a)", "(& a)", "(& a a a)", "(+ b)", "+ b b",
                        "(+ b b b)", "(= b)", "(< b)", "(| a)", "(* 2)", "(- b b)", "(> b b)",
                        "(? a a)", "(- a a)", "(x a a)", "(A a a)", "(1 a a)", "( a a)", "(m a)",
                        "()", "(", ")", "((~ a))", "(1)", "(x)", "(!", "(! ", "(! w a)", "~ a"));
        Bench.holds("with just one blank where one is shown;",
                () -> isNoText("(~a)", "(~  a)", "( ~ a)", "(~ a )", " a", "a ", "(~ a) ",
                        "(&a a)", "(& aa)", "(& a  a)", "(& a a )", "(! xa)", "(!x a)",
                        "(! x  a)", "(!  x a)", "(! x a )", "ab"));
        Bench.holds("brackets stand in brackets at most 12 deep.", ReadingTest::brackets);
    }

    private static void constants() {
        Bench.holds("a constant may have any 1 to 5 digits on either side of /",
                () -> readsAs("7", "7", "99999", "99999", "-99999/99998", "-99999/99998",
                        "00001", "1", "1/00003", "1/3", "00000", "0"));
        Bench.holds("a constant may have any 1 to 5 digits on either side of /",
                () -> isNoText("123456", "000000", "1/123456", "1/000001", "123456/2", "-", "/2",
                        "1/", "-/2", "/", "-1/", "1//2", "1/2/3"));
        Bench.holds("and is brought to its lowest terms;",
                () -> readsAs("5/10", "1/2", "-6/4", "-3/2", "4/2", "2", "99999/99999", "1",
                        "0/5", "0", "-0/00007", "0", "99998/2", "49999", "65536/98304", "2/3"));
        Bench.holds("below / not only zeros", () -> isNoText("1/0", "0/0", "1/00000", "-0/000"));
        Bench.holds("(-0 is 0, 007/014 is 1/2; +1 and 1/-2 are none)",
                () -> readsAs("-0", "0", "007/014", "1/2", "-00", "0"));
        Bench.holds("(-0 is 0, 007/014 is 1/2; +1 and 1/-2 are none)",
                () -> isNoText("+1", "1/-2", "1/+2", "--1", "- 1", "1 /2", "1/ 2", "1.5", "1e3",
                        "-a", "-x", "1a", "0x1"));
    }

    private static void term() {
        Bench.holds("Reads the draft as a term; the draft is empty then",
                ReadingTest::draftIsEmptyThen);
        Bench.holds("but term() empties the draft in any case.",
                ReadingTest::draftIsEmptyAfterThrows);
        Bench.holds("the term's number (that which it has, if it is there).",
                ReadingTest::numberThatItHas);
        Bench.holds("IllegalArgumentException if it is no text of a term", ReadingTest::noText);
        Bench.holds("(a symbol that is not there, brackets that are too deep, an empty draft,"
                + " too).", ReadingTest::noSymbolNoDraft);
    }

    /** a is a truth, b a number, c of sort 2; d: 2 to 2; e: 2 and 1 to 0; f: 0 to 1; z of 2. */
    private static Bench bench() {
        Bench b = new Bench();
        int two = b.sort();
        b.symbol(0, -1, -1);
        b.symbol(1, -1, -1);
        b.symbol(two, -1, -1);
        b.symbol(two, two, -1);
        b.symbol(0, two, 1);
        b.symbol(1, 0, -1);
        b.variable(2, two);
        return b;
    }

    private static void fits(int kind, int sort, String... texts) {
        Bench b = bench();
        for (String text : texts) {
            int t = b.read(text);
            Bench.due("text", b.textOf(t), text);
            Bench.due("kind of " + text, b.look(t, 0), kind);
            Bench.due("sort of " + text, b.look(t, 1), sort);
        }
    }

    private static void doesNotFit(String... texts) {
        Bench b = bench();
        for (String text : texts) {
            Bench.due(text, b.reading(text), Bench.WRONG);
        }
        Bench.due("terms that stay", b.termCount(), 0);
    }

    private static void isNoText(String... texts) {
        Bench b = bench();
        b.read("(+ b (f (~ a)))");
        int before = b.termCount();
        for (String text : texts) {
            Bench.due(text, b.reading(text), Bench.WRONG);
            Bench.due("terms after " + text, b.termCount(), before);
        }
    }

    private static void readsAs(String... pairs) {
        Bench b = bench();
        for (int i = 0; i < pairs.length; i += 2) {
            Bench.due(pairs[i], b.textOf(b.read(pairs[i])), pairs[i + 1]);
            Bench.due(pairs[i] + " is one with it", b.read(pairs[i]), b.read(pairs[i + 1]));
        }
    }

    private static void forAll() {
        Bench b = bench();
        Bench.due("the truth alone is made", b.read("(! y (& a a))"), 2);
        Bench.due("(! y (& a a))", b.looks(2), "10 0 3 1 -1 1");
        int t = b.read("(! z (= (d z) c))");
        Bench.due("of any sort", b.looks(t), "10 0 4 " + b.read("(= (d z) c)") + " -1 2");
    }

    private static void depths() {
        Bench b = bench();
        String[] texts = {"a", "x", "-1/2", "(f a)", "(! x a)", "(& (~ (~ a)) (~ (~ (~ a))))",
            "(| (~ (~ a)) a)", "(* 2 (+ 1 1))", "(e (d (d c)) b)", "(! y (~ (~ a)))"};
        int[] depths = {1, 1, 1, 2, 2, 5, 4, 3, 4, 4};
        for (int i = 0; i < texts.length; i++) {
            Bench.due("depth of " + texts[i], b.look(b.read(texts[i]), 2), depths[i]);
        }
    }

    private static void depthTwelve() {
        Bench b = bench();
        Bench.due("12", b.look(b.read(Bench.nots(11, "a")), 2), 12);
        b.write(Bench.nots(12, "a"));
        b.refuses("13", b::term, Bench.TOO_GREAT);
        b.write("(& (& a " + Bench.nots(11, "a") + ") a)");
        b.refuses("14, but brackets 13 deep", b::term, Bench.WRONG);
        b.write("(& a " + Bench.nots(11, "a") + ")");
        b.refuses("13 by the second part", b::term, Bench.TOO_GREAT);
        b.write("(! x (f " + "(+ 1 ".repeat(10) + "1" + ")".repeat(12));
        b.refuses("a number for a truth, and 13", b::term, Bench.WRONG);
        Bench sums = bench();
        sums.write("(! x (~ (< 1 " + "(+ 1 ".repeat(9) + "1"
                + ")".repeat(12));
        sums.refuses("13 of many kinds", sums::term, Bench.TOO_GREAT);
        Bench.due("12 of many kinds", sums.look(sums.read("(! x (~ (< 1 " + "(+ 1 ".repeat(8)
                + "1" + ")".repeat(11)), 2), 12);
    }

    private static void numbersInOrder() {
        Bench b = bench();
        Bench.due("(= (+ b 1) (+ 1 (f a)))", b.read("(= (+ b 1) (+ 1 (f a)))"), 6);
        String[] order = {"b", "1", "(+ b 1)", "a", "(f a)", "(+ 1 (f a))"};
        for (int t = 0; t < order.length; t++) {
            Bench.due("term " + t, b.textOf(t), order[t]);
        }
        Bench.due("the parts", b.look(6, 3) + " " + b.look(6, 4), "2 5");
        Bench.due("the parts", b.look(5, 3) + " " + b.look(5, 4), "1 4");
    }

    private static void keptOnce() {
        Bench b = bench();
        String[] order = {"b", "1", "(+ b 1)", "(+ 1 b)", "(= (+ b 1) (+ 1 b))",
            "(! x (= (+ b 1) (+ 1 b)))"};
        b.read(order[5]);
        for (int t = 0; t < order.length; t++) {
            Bench.due("again " + order[t], b.read(order[t]), t);
        }
        Bench.due("terms", b.termCount(), 6);
        Bench.due("a whole of parts that are there", b.read("(+ (+ b 1) (+ b 1))"), 6);
        Bench.due("by a rule, too", b.clause(b.same(2), 0), 7);
        Bench.due("and read again", b.read("(= (+ b 1) (+ b 1))"), 7);
        Bench.due("terms", b.termCount(), 8);
    }

    private static void whatDiffers() {
        Bench b = bench();
        b.symbol(2, 2, -1);
        String[] texts = {"a", "b", "c", "x", "y", "z", "0", "1", "-1", "2", "1/2", "-1/2",
            "3/2", "2/3", "(d c)", "(g c)", "(d z)", "(+ 1 2)", "(+ 2 1)", "(* 1 2)", "(= 1 2)",
            "(< 1 2)", "(~ a)", "(& a a)", "(| a a)", "(= a a)", "(! x a)", "(! y a)", "(! z a)"};
        for (String text : texts) {
            b.read(text);
        }
        Bench.due("terms", b.termCount(), texts.length);
    }

    private static void hundredTerms() {
        Bench b = bench();
        b.fillTermsTo(97);
        b.write("(= (+ 1 2) (+ 1 3))");
        b.refuses("six more", b::term, Bench.NO_ROOM);
        b.write("(+ 1 2)");
        Bench.answers("three more", b::term, 99);
        b.write("3");
        b.refuses("one more", b::term, Bench.NO_ROOM);
        b.write("(+ 2 1)");
        b.refuses("one more of parts that are there", b::term, Bench.NO_ROOM);
        Bench.due("one that is there", b.read("(+ 1 2)"), 99);
        Bench.due("a hundred", b.termCount(), 100);
        Bench c = bench();
        c.fillTermsTo(98);
        Bench.due("two more, one of them twice", c.read("(+ 1 1)"), 99);
    }

    private static void brackets() {
        Bench b = bench();
        b.write(Bench.nots(13, "a"));
        b.refuses("13 deep", b::term, Bench.WRONG);
        b.write("(& a " + Bench.nots(12, "a") + ")");
        b.refuses("13 deep in the second part", b::term, Bench.WRONG);
        b.write("(& " + Bench.nots(12, "a") + " a)");
        b.refuses("13 deep in the first part", b::term, Bench.WRONG);
        b.write(Bench.nots(20, "a"));
        b.refuses("20 deep", b::term, Bench.WRONG);
        b.write("(".repeat(120));
        b.refuses("120 deep", b::term, Bench.WRONG);
        b.write(Bench.nots(12, "a"));
        b.refuses("12 deep are read, though the term is too deep", b::term, Bench.TOO_GREAT);
        Bench.due("11 deep", b.look(b.read(Bench.nots(11, "a")), 2), 12);
        Bench.due("side by side", b.look(b.read("(& (& (~ a) (~ a)) (& (~ a) (& (~ a) (& (~ a)"
                + " (& (~ a) (& (~ a) (~ a)))))))"), 2), 8);
    }

    private static void draftIsEmptyThen() {
        Bench b = bench();
        b.read("b");
        b.refuses("an empty draft", b::term, Bench.WRONG);
        Bench.due("what comes then is read alone", b.textOf(b.read("1")), "1");
        b.read("b");
        Bench.due("after one that was there", b.textOf(b.read("2")), "2");
    }

    private static void draftIsEmptyAfterThrows() {
        Bench b = bench();
        b.reading("(~ b)");
        Bench.due("after no text", b.textOf(b.read("1")), "1");
        b.reading(Bench.nots(12, "a"));
        Bench.due("after one too deep", b.textOf(b.read("2")), "2");
        b.fillTermsTo(100);
        b.reading("99");
        Bench.due("after one too many", b.textOf(b.read("1")), "1");
    }

    private static void numberThatItHas() {
        Bench b = bench();
        Bench.due("new", b.read("(~ a)"), 1);
        Bench.due("new", b.read("(~ (~ a))"), 2);
        Bench.due("there", b.read("(~ a)"), 1);
        Bench.due("there, as a part", b.read("a"), 0);
        Bench.due("terms", b.termCount(), 3);
    }

    private static void noText() {
        Bench b = bench();
        int t = b.read("(~ (& a a))");
        for (String text : new String[] {"(~ (& a a)", "(~ (& a a)))", "(~ (& a a))a",
            "(~ (& a a)) a", "(~ (& a a) a)", "(~ (& a b))", "(~ (& a a]", "[~ a)", "?"}) {
            b.write(text);
            b.refuses(text, b::term, Bench.WRONG);
        }
        Bench.due("the right one", b.read("(~ (& a a))"), t);
    }

    private static void noSymbolNoDraft() {
        Bench b = bench();
        b.refuses("an empty draft", b::term, Bench.WRONG);
        for (String text : new String[] {"g", "l", "(g a)", "(g a a)", "(l a)", "(~ g)"}) {
            b.write(text);
            b.refuses(text, b::term, Bench.WRONG);
        }
        b.symbol(0, -1, -1);
        Bench.due("g is there now", b.textOf(b.read("(~ g)")), "(~ g)");
        b.write(Bench.nots(13, "a"));
        b.refuses("brackets that are too deep", b::term, Bench.WRONG);
    }
}
