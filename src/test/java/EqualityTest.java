/** Promises 11 to 14, a sentence at a time: same, chain, turn, replace. */
public final class EqualityTest {
    private static final int[] NO_TERMS = {-1, 100, Bench.LOWEST, Bench.HIGHEST};

    public static void main(String[] args) {
        same();
        chain();
        turn();
        replace();
        Bench.end();
    }

    private static void same() {
        Bench.holds("(= t t).", EqualityTest::sameOfAllKinds);
        Bench.holds("there is no such term or no such step that stands.",
                EqualityTest::sameOfNoTerm);
        Bench.holds("ArithmeticException: a term would be too deep", EqualityTest::sameTooDeep);
        Bench.holds("more than 8 truths, 100 terms", EqualityTest::sameWithoutRoom);
    }

    private static void chain() {
        Bench.holds("t is (= p q) and u is (= q r): the opposite of t and that of u and (= p r)"
                + " are joined in order.", EqualityTest::chaining);
        Bench.holds("are joined in order.", EqualityTest::chainingTheSame);
        Bench.holds("t is (= p q) and u is (= q r)", EqualityTest::chainsNotGranted);
        Bench.holds("there is no such term or no such step that stands.",
                EqualityTest::chainsOfNoTerm);
        Bench.holds("Terms are numbered 0, 1, .. as they are made",
                EqualityTest::newTermsOfChain);
        Bench.holds("ArithmeticException: a term would be too deep", EqualityTest::chainTooDeep);
        Bench.holds("more than 8 truths, 100 terms", EqualityTest::chainWithoutRoom);
    }

    private static void turn() {
        Bench.holds("t is (= p q): its opposite, and (= q p).", EqualityTest::turning);
        Bench.holds("t is (= p q): its opposite, and (= q p).", EqualityTest::turnsNotGranted);
        Bench.holds("ArithmeticException: a term would be too deep", EqualityTest::turnTooDeep);
        Bench.holds("more than 8 truths, 100 terms", EqualityTest::turnWithoutRoom);
    }

    private static void replace() {
        Bench.holds("for each part p of t and q of u, in order, that are not the same, the"
                + " opposite of (= p q)", EqualityTest::replacing);
        Bench.holds("and then (= t u), are joined.", EqualityTest::replacingJoined);
        Bench.holds("t and u are of one kind", EqualityTest::replacingConnectives);
        Bench.holds("t and u are of one kind", EqualityTest::replacingTwoKinds);
        Bench.holds("other than 1, 2 and 10", EqualityTest::replacingOtherKinds);
        Bench.holds("of one symbol if of kind 0, and have parts",
                EqualityTest::replacingTwoSymbols);
        Bench.holds("and have parts", EqualityTest::replacingWithoutParts);
        Bench.holds("(IllegalArgumentException if their sorts differ)",
                EqualityTest::replacingTwoSorts);
        Bench.holds("there is no such term or no such step that stands.",
                EqualityTest::replacingNoTerm);
        Bench.holds("Terms are numbered 0, 1, .. as they are made",
                EqualityTest::newTermsOfReplace);
        Bench.holds("ArithmeticException: a term would be too deep",
                EqualityTest::replaceTooDeep);
        Bench.holds("more than 8 truths, 100 terms", EqualityTest::replaceWithoutRoom);
    }

    /** a, b, c of sort 2; d one argument, e two; f, g truths; h, i numbers; x of sort 2. */
    private static Bench bench() {
        Bench b = new Bench();
        int two = b.sort();
        b.symbols(3, two);
        b.symbol(two, two, -1);
        b.symbol(two, two, two);
        b.symbols(2, 0).symbols(2, 1);
        b.variable(0, two);
        return b;
    }

    private static void sameOfAllKinds() {
        Bench b = bench();
        for (String text : new String[] {"a", "f", "h", "x", "1/2", "(d a)", "(+ h 1)",
            "(* 2 h)", "(= a b)", "(< h i)", "(~ f)", "(& f g)", "(| f g)", "(! y f)"}) {
            int t = b.read(text);
            b.enters(() -> b.same(t), "[(= " + text + " " + text + ")]");
        }
    }

    private static void sameOfNoTerm() {
        Bench b = bench();
        b.read("a");
        b.refuses("term 1", () -> b.same(1), Bench.MISSING);
        for (int none : NO_TERMS) {
            b.refuses("term " + none, () -> b.same(none), Bench.MISSING);
        }
    }

    private static void sameTooDeep() {
        Bench b = bench();
        int twelve = b.read(Bench.nots(11, "f"));
        int eleven = b.look(twelve, 3);
        b.refuses("of depth 12", () -> b.same(twelve), Bench.TOO_GREAT);
        Bench.answers("of depth 11", () -> b.same(eleven), 0);
        Bench.due("depth", b.look(b.clause(0, 0), 2), 12);
    }

    private static void sameWithoutRoom() {
        Bench b = bench();
        int a = b.read("a");
        int f = b.read("f");
        b.fillTermsTo(99);
        b.enters(() -> b.same(a), "[(= a a)]");
        b.refuses("the 101st", () -> b.same(f), Bench.NO_ROOM);
        b.enters(() -> b.same(a), "[(= a a)]");
    }

    private static void chaining() {
        Bench b = bench();
        int ab = b.read("(= a b)");
        int bc = b.read("(= b c)");
        b.enters(() -> b.chain(ab, bc), "[(~ (= a b)), (~ (= b c)), (= a c)]");
        int fg = b.read("(= f g)");
        int gf = b.read("(= g (~ f))");
        b.enters(() -> b.chain(fg, gf), "[(~ (= f g)), (~ (= g (~ f))), (= f (~ f))]");
        int h1 = b.read("(= (+ h 1) 1)");
        int i1 = b.read("(= 1 i)");
        b.enters(() -> b.chain(h1, i1), "[(~ (= (+ h 1) 1)), (~ (= 1 i)), (= (+ h 1) i)]");
    }

    private static void chainingTheSame() {
        Bench b = bench();
        int ab = b.read("(= a b)");
        int ba = b.read("(= b a)");
        int aa = b.read("(= a a)");
        b.enters(() -> b.chain(ab, ba), "[(~ (= a b)), (~ (= b a)), (= a a)]");
        b.enters(() -> b.chain(aa, aa), "[(~ (= a a)), (= a a)]");
        b.enters(() -> b.chain(aa, ab), "[(~ (= a a)), (~ (= a b)), (= a b)]");
        b.enters(() -> b.chain(ba, aa), "[(~ (= b a)), (~ (= a a)), (= b a)]");
    }

    private static void chainsNotGranted() {
        Bench b = bench();
        int ab = b.read("(= a b)");
        int ac = b.read("(= a c)");
        int cb = b.read("(= c b)");
        int ba = b.read("(= b a)");
        int less = b.read("(< h h)");
        int hh = b.read("(= h h)");
        int not = b.read("(~ (= b c))");
        int and = b.read("(& f g)");
        int ff = b.read("(= g f)");
        b.refuses("b is not a", () -> b.chain(ab, ac), Bench.WRONG);
        b.refuses("only the second parts are one", () -> b.chain(ab, cb), Bench.WRONG);
        b.refuses("only p and r are one", () -> b.chain(ac, ba), Bench.WRONG);
        b.refuses("itself", () -> b.chain(ab, ab), Bench.WRONG);
        b.refuses("t no =", () -> b.chain(less, hh), Bench.WRONG);
        b.refuses("u no =", () -> b.chain(hh, less), Bench.WRONG);
        b.refuses("t no =", () -> b.chain(and, ff), Bench.WRONG);
        b.refuses("an opposite", () -> b.chain(ab, not), Bench.WRONG);
        b.refuses("an opposite", () -> b.chain(not, cb), Bench.WRONG);
    }

    private static void chainsOfNoTerm() {
        Bench b = bench();
        int aa = b.read("(= a a)");
        b.refuses("t 2", () -> b.chain(2, aa), Bench.MISSING);
        b.refuses("u 2", () -> b.chain(aa, 2), Bench.MISSING);
        for (int none : NO_TERMS) {
            b.refuses("t " + none, () -> b.chain(none, aa), Bench.MISSING);
            b.refuses("u " + none, () -> b.chain(aa, none), Bench.MISSING);
        }
    }

    private static void newTermsOfChain() {
        Bench b = bench();
        int ab = b.read("(= a b)");
        int bc = b.read("(= b c)");
        b.chain(ab, bc);
        String[] made = {"(~ (= a b))", "(~ (= b c))", "(= a c)"};
        for (int i = 0; i < made.length; i++) {
            Bench.due("made", b.textOf(bc + 1 + i), made[i]);
        }
        Bench.due("terms", b.termCount(), bc + 4);
    }

    private static void chainTooDeep() {
        Bench b = bench();
        String nine = Bench.nots(8, "f");
        int ten = b.read("(= f " + nine + ")");
        int back = b.read("(= " + nine + " f)");
        int eleven = b.read("(= f (~ " + nine + "))");
        int elevenBack = b.read("(= (~ " + nine + ") f)");
        int twelve = b.read("(= f (~ (~ " + nine + ")))");
        int twelveBack = b.read("(= (~ (~ " + nine + ")) f)");
        Bench.due("depth", b.look(twelve, 2), 12);
        Bench.answers("10", () -> b.chain(ten, back), 0);
        Bench.answers("11, and opposites of 12", () -> b.chain(eleven, elevenBack), 1);
        b.refuses("opposites of 13", () -> b.chain(twelve, twelveBack), Bench.TOO_GREAT);
        int ff = b.read("(= f f)");
        b.refuses("that of u alone", () -> b.chain(ff, twelve), Bench.TOO_GREAT);
        b.refuses("that of t alone", () -> b.chain(twelveBack, ff), Bench.TOO_GREAT);
    }

    private static void chainWithoutRoom() {
        Bench b = bench();
        int ab = b.read("(= a b)");
        int bc = b.read("(= b c)");
        b.fillTermsTo(97);
        b.enters(() -> b.chain(ab, bc), "[(~ (= a b)), (~ (= b c)), (= a c)]");
        Bench.due("terms", b.termCount(), 100);
        Bench less = bench();
        int t = less.read("(= a b)");
        int u = less.read("(= b c)");
        less.fillTermsTo(98);
        less.refuses("three terms more", () -> less.chain(t, u), Bench.NO_ROOM);
        Bench once = bench();
        int aa = once.read("(= a a)");
        once.fillTermsTo(99);
        once.enters(() -> once.chain(aa, aa), "[(~ (= a a)), (= a a)]");
    }

    private static void turning() {
        Bench b = bench();
        int ab = b.read("(= a b)");
        int hh = b.read("(= h h)");
        b.enters(() -> b.turn(ab), "[(~ (= a b)), (= b a)]");
        Bench.due("the opposite is made first", b.clause(0, 0) + 1, b.clause(0, 1));
        b.enters(() -> b.turn(hh), "[(~ (= h h)), (= h h)]");
        int fg = b.read("(= f (= g g))");
        b.enters(() -> b.turn(fg), "[(~ (= f (= g g))), (= (= g g) f)]");
    }

    private static void turnsNotGranted() {
        Bench b = bench();
        for (String text : new String[] {"f", "a", "(~ (= a b))", "(< h i)", "(& f g)", "1",
            "(d a)", "(! y (= a b))"}) {
            int t = b.read(text);
            b.refuses(text, () -> b.turn(t), Bench.WRONG);
        }
        int next = b.termCount();
        b.refuses("term " + next, () -> b.turn(next), Bench.MISSING);
        for (int none : NO_TERMS) {
            b.refuses("term " + none, () -> b.turn(none), Bench.MISSING);
        }
    }

    private static void turnTooDeep() {
        Bench b = bench();
        int eleven = b.read("(= f " + Bench.nots(9, "f") + ")");
        int twelve = b.read("(= f " + Bench.nots(10, "f") + ")");
        Bench.answers("11", () -> b.turn(eleven), 0);
        b.refuses("12", () -> b.turn(twelve), Bench.TOO_GREAT);
    }

    private static void turnWithoutRoom() {
        Bench b = bench();
        int ab = b.read("(= a b)");
        b.fillTermsTo(99);
        b.refuses("two terms more", () -> b.turn(ab), Bench.NO_ROOM);
        Bench fits = bench();
        int t = fits.read("(= a b)");
        fits.fillTermsTo(98);
        fits.enters(() -> fits.turn(t), "[(~ (= a b)), (= b a)]");
        fits.enters(() -> fits.turn(t), "[(~ (= a b)), (= b a)]");
    }

    private static void replaces(String t, String u, String clause) {
        Bench b = bench();
        int first = b.read(t);
        int second = b.read(u);
        b.enters(() -> b.replace(first, second), clause);
    }

    private static void replacing() {
        replaces("(d a)", "(d b)", "[(~ (= a b)), (= (d a) (d b))]");
        replaces("(e a b)", "(e a c)", "[(~ (= b c)), (= (e a b) (e a c))]");
        replaces("(e a b)", "(e b b)", "[(~ (= a b)), (= (e a b) (e b b))]");
        replaces("(e a b)", "(e c x)", "[(~ (= a c)), (~ (= b x)), (= (e a b) (e c x))]");
        replaces("(e a b)", "(e b a)", "[(~ (= a b)), (~ (= b a)), (= (e a b) (e b a))]");
    }

    private static void replacingJoined() {
        replaces("(e a a)", "(e b b)", "[(~ (= a b)), (= (e a a) (e b b))]");
        replaces("(e a b)", "(e a b)", "[(= (e a b) (e a b))]");
        replaces("(~ f)", "(~ f)", "[(= (~ f) (~ f))]");
    }

    private static void replacingConnectives() {
        replaces("(+ h 1)", "(+ i 1)", "[(~ (= h i)), (= (+ h 1) (+ i 1))]");
        replaces("(* 2 h)", "(* 3 i)", "[(~ (= 2 3)), (~ (= h i)), (= (* 2 h) (* 3 i))]");
        replaces("(= f g)", "(= g f)", "[(~ (= f g)), (~ (= g f)), (= (= f g) (= g f))]");
        replaces("(= a b)", "(= a c)", "[(~ (= b c)), (= (= a b) (= a c))]");
        replaces("(< h 1)", "(< h i)", "[(~ (= 1 i)), (= (< h 1) (< h i))]");
        replaces("(~ f)", "(~ g)", "[(~ (= f g)), (= (~ f) (~ g))]");
        replaces("(& f g)", "(& f f)", "[(~ (= g f)), (= (& f g) (& f f))]");
        replaces("(| f g)", "(| g g)", "[(~ (= f g)), (= (| f g) (| g g))]");
    }

    private static void notReplaced(String... pairs) {
        Bench b = bench();
        b.symbol(2, 2, -1);
        for (int i = 0; i < pairs.length; i += 2) {
            int t = b.read(pairs[i]);
            int u = b.read(pairs[i + 1]);
            b.refuses(pairs[i] + " " + pairs[i + 1], () -> b.replace(t, u), Bench.WRONG);
        }
    }

    private static void replacingTwoKinds() {
        notReplaced("(& f g)", "(| f g)", "(d a)", "a", "a", "(d a)", "(~ f)", "(! x f)",
                "(< h i)", "(= h i)", "(+ 2 h)", "(* 2 h)", "f", "(~ f)", "(e a b)", "(= a b)");
    }

    private static void replacingOtherKinds() {
        notReplaced("x", "x", "y", "z", "1", "1", "1", "2", "(! y f)", "(! y f)",
                "(! y f)", "(! y g)", "(! y f)", "(! z f)");
    }

    private static void replacingTwoSymbols() {
        notReplaced("(d a)", "(j a)", "(d a)", "(e a a)", "(e a a)", "(d a)", "(j b)", "(d a)");
        replaces("(d (d a))", "(d a)", "[(~ (= (d a) a)), (= (d (d a)) (d a))]");
    }

    private static void replacingWithoutParts() {
        notReplaced("a", "a", "a", "b", "f", "f", "h", "i");
    }

    private static void replacingTwoSorts() {
        notReplaced("(= f g)", "(= a b)", "(= h i)", "(= a b)", "(= a b)", "(= 1 2)",
                "(= f f)", "(= h h)");
    }

    private static void replacingNoTerm() {
        Bench b = bench();
        int da = b.read("(d a)");
        b.refuses("t 2", () -> b.replace(2, da), Bench.MISSING);
        b.refuses("u 2", () -> b.replace(da, 2), Bench.MISSING);
        for (int none : NO_TERMS) {
            b.refuses("t " + none, () -> b.replace(none, da), Bench.MISSING);
            b.refuses("u " + none, () -> b.replace(da, none), Bench.MISSING);
        }
    }

    private static void newTermsOfReplace() {
        Bench b = bench();
        int t = b.read("(e a b)");
        int u = b.read("(e b a)");
        b.replace(t, u);
        String[] made = {"(= a b)", "(~ (= a b))", "(= b a)", "(~ (= b a))",
            "(= (e a b) (e b a))"};
        for (int i = 0; i < made.length; i++) {
            Bench.due("made", b.textOf(u + 1 + i), made[i]);
        }
        Bench.due("terms", b.termCount(), u + 6);
    }

    private static void replaceTooDeep() {
        Bench b = bench();
        int twelve = b.read(Bench.nots(11, "f"));
        int other = b.read(Bench.nots(11, "g"));
        int eleven = b.look(twelve, 3);
        int otherEleven = b.look(other, 3);
        b.refuses("of depth 12", () -> b.replace(twelve, other), Bench.TOO_GREAT);
        b.refuses("of depth 12, itself", () -> b.replace(twelve, twelve), Bench.TOO_GREAT);
        b.refuses("one of depth 12", () -> b.replace(eleven, other), Bench.TOO_GREAT);
        Bench.answers("of depth 11", () -> b.replace(eleven, otherEleven), 0);
        Bench.due("depth", b.look(b.clause(0, 0), 2), 12);
        Bench.due("depth", b.look(b.clause(0, 1), 2), 12);
    }

    private static void replaceWithoutRoom() {
        Bench b = bench();
        int t = b.read("(e a b)");
        int u = b.read("(e b a)");
        b.fillTermsTo(96);
        b.refuses("five terms more", () -> b.replace(t, u), Bench.NO_ROOM);
        b.enters(() -> b.replace(t, t), "[(= (e a b) (e a b))]");
        Bench fits = bench();
        int p = fits.read("(e a b)");
        int q = fits.read("(e b a)");
        fits.fillTermsTo(95);
        fits.enters(() -> fits.replace(p, q),
                "[(~ (= a b)), (~ (= b a)), (= (e a b) (e b a))]");
        Bench.due("terms", fits.termCount(), 100);
        Bench once = bench();
        int r = once.read("(e a a)");
        int s = once.read("(e b b)");
        once.fillTermsTo(97);
        once.enters(() -> once.replace(r, s), "[(~ (= a b)), (= (e a a) (e b b))]");
    }
}
