/** The example of README.md: b holds of all up to 2, and a is at most 1, so b holds of a. */
public final class Example {
    public static void main(String[] args) {
        ClauseLedger ledger = new ClauseLedger();
        ledger.symbol(1, -1, -1);                 // a, a number
        ledger.symbol(0, 1, -1);                  // b, a truth about a number

        int all = read(ledger, "(! x (| (~ (< x 2)) (b x)))");
        int most = read(ledger, "(< a 1)");
        int given = ledger.assume(all);
        int known = ledger.assume(most);

        ledger.open();
        int opposed = ledger.assume(read(ledger, "(~ (b a))"));
        int either = ledger.cut(given, all, ledger.instance(all, read(ledger, "a")));
        int or = ledger.clause(either, 0);
        int apart = ledger.cut(either, or, ledger.meaning(or, 0));
        int less = read(ledger, "(< a 2)");
        int sum = ledger.linear(read(ledger, "(~ (< a 1))"), less, -1, 1, 1, 0);
        int below = ledger.cut(known, most, sum);
        int holds = ledger.cut(below, less, apart);
        ledger.cut(holds, read(ledger, "(b a)"), opposed);
        ledger.close();

        int steps = ledger.look(-1, 1);
        for (int step = 0; step < steps; step++) {
            System.out.println(step + " at " + ledger.scope(step) + ":" + clause(ledger, step));
        }
        try {
            ledger.widen(holds, less);
        } catch (IndexOutOfBoundsException e) {
            System.out.println("step " + holds + " stands no more");
        }
        System.out.println("calls that have thrown: " + ledger.look(-1, 2));
    }

    private static int read(ClauseLedger ledger, String text) {
        for (int i = 0; i < text.length(); i += 8) {
            long s = 0;
            for (int k = Math.min(i + 8, text.length()) - 1; k >= i; k--) {
                s = s << 8 | text.charAt(k);
            }
            ledger.draft(s);
        }
        return ledger.term();
    }

    private static String clause(ClauseLedger ledger, int step) {
        StringBuilder row = new StringBuilder();
        int size = ledger.clause(step, -1);
        for (int k = 0; k < size; k++) {
            row.append(k == 0 ? " " : ", ");
            int t = ledger.clause(step, k);
            int length = ledger.text(t, -1);
            for (int i = 0; i < length; i++) {
                row.append((char) ledger.text(t, i));
            }
        }
        return row.toString();
    }
}
