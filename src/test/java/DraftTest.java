/** Promise 5, a sentence at a time: draft. */
public final class DraftTest {
    public static void main(String[] args) {
        Bench.holds("Puts up to eight characters behind the DRAFT (none at first)",
                DraftTest::upToEight);
        Bench.holds("the bytes of s, the lowest first, up to the first zero byte.",
                DraftTest::upToTheZeroByte);
        Bench.holds("False, refused, if the lowest byte is 0", DraftTest::lowestByteIsZero);
        Bench.holds("one of them is not 32 .. 126", DraftTest::charactersOutside);
        Bench.holds("or it would have more than 120.", DraftTest::moreThan120);
        Bench.end();
    }

    private static void upToEight() {
        Bench b = new Bench();
        b.refuses("none at first", b::term, Bench.WRONG);
        String[] texts = {"1", "12", "123", "1234", "12345", "-12345", "(+ 1 2)", "(+ 1 23)"};
        for (String text : texts) {
            Bench.due("draft of " + text.length(), b.draft(Bench.packed(text)), true);
            Bench.due("read", b.textOf(b.term()), text);
        }
        Bench.due("eight, and more to come", b.draft(Bench.packed("(+ 7 (* ")), true);
        Bench.due("behind them", b.draft(Bench.packed("2 y))")), true);
        Bench.due("read", b.textOf(b.term()), "(+ 7 (* 2 y))");
    }

    private static void upToTheZeroByte() {
        Bench b = new Bench();
        Bench.due("lowest first", b.draft(0x3332_3130_3938L), true);
        Bench.due("six digits", Bench.outcome(b::term), Bench.WRONG);
        b.draft(0x33_3231L);
        Bench.due("123", b.textOf(b.term()), "123");
        Bench.due("behind a zero byte", b.draft(0x3939_3900_3231L), true);
        Bench.due("12", b.textOf(b.term()), "12");
        Bench.due("what is no character behind it", b.draft(0xFF80_7F1F_0100_0078L), true);
        Bench.due("x", b.textOf(b.term()), "x");
        Bench.due("the highest byte", b.draft(0x0039_3020_3520_2B28L), true);
        Bench.due("and one more", b.draft(0x29L), true);
        Bench.due("(+ 5 09)", b.textOf(b.term()), "(+ 5 9)");
    }

    private static void lowestByteIsZero() {
        Bench b = new Bench();
        b.write("4");
        for (long s : new long[] {0L, 0x3100L, 0x3131_3131_3131_3100L, Long.MIN_VALUE}) {
            Bench.due("draft(" + s + ")", b.draft(s), false);
        }
        b.write("2");
        Bench.due("nothing came between", b.textOf(b.term()), "42");
    }

    private static void charactersOutside() {
        Bench b = new Bench();
        b.write("4");
        for (int place = 0; place < 8; place++) {
            long before = place == 0 ? 0 : 0x3131_3131_3131_3131L >>> 8 * (8 - place);
            for (long c : new long[] {1, 31, 127, 128, 255}) {
                Bench.due("character " + c + " at " + place, b.draft(before | c << 8 * place),
                        false);
            }
        }
        b.write("2");
        Bench.due("nothing came between", b.textOf(b.term()), "42");
        Bench.due("32", b.draft(32L), true);
        Bench.due("126", b.draft(126L), true);
        Bench.due("32 and 126 at the top", b.draft(0x7E20_3131_3131_3131L), true);
        Bench.due("they are no text", Bench.outcome(b::term), Bench.WRONG);
    }

    private static void moreThan120() {
        String four = "(& (& a a) (& a a))";
        String full = "(& (& " + four + " " + four + ") (& " + four + " " + four + "))";
        String text = "(& " + full + " (~ (~ (~ (~ (< 1 12))))))";
        Bench.due("length of the text", text.length(), 120);
        Bench b = new Bench().symbols(1, 0);
        Bench.due("112", b.write(text.substring(0, 112)), true);
        Bench.due("1", b.draft(Bench.packed(text.substring(112, 113))), true);
        Bench.due("121", b.draft(Bench.packed("))))))))")), false);
        Bench.due("120", b.draft(Bench.packed(text.substring(113))), true);
        Bench.due("one more", b.draft(Bench.packed(")")), false);
        int t = b.term();
        Bench.due("all 120 are read", b.textOf(t), text);
        Bench.due("an empty draft takes as many again", b.write("1".repeat(120)), true);
        Bench.due("but no more", b.draft(Bench.packed("1")), false);
        Bench.due("they are no text", Bench.outcome(b::term), Bench.WRONG);
        Bench.due("it is empty after a throw, too", b.write("1".repeat(120)), true);
    }
}
