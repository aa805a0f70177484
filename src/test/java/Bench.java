import java.util.StringJoiner;

/** A ledger under test with short ways to use it, and the count of what was not as due. */
final class Bench {
    private static int wrong = 0;

    final ClauseLedger ledger = new ClauseLedger();

    interface Call {
        int answer();
    }

    static void due(String what, Object got, Object want) {
        if (!String.valueOf(got).equals(String.valueOf(want))) {
            wrong++;
            System.out.println(what + ": answered " + brief(got) + ", due is " + brief(want));
        }
    }

    private static String brief(Object answer) {
        String text = String.valueOf(answer);
        return text.length() <= 400 ? text : text.substring(0, 400) + " ..";
    }

    /** Ends the test; the exit code tells whether all was as due. */
    static void end() {
        System.exit(wrong == 0 ? 0 : 1);
    }

    /** The answer in digits, or the plain name of the exception. */
    static String outcome(Call call) {
        try {
            return String.valueOf(call.answer());
        } catch (RuntimeException e) {
            return e.getClass().getSimpleName();
        }
    }

    static final String MISSING = "IndexOutOfBoundsException";
    static final String WRONG = "IllegalArgumentException";
    static final String TOO_GREAT = "ArithmeticException";
    static final String NO_ROOM = "IllegalStateException";

    /** Up to eight characters as draft() takes them. */
    static long packed(String text) {
        long s = 0;
        for (int i = text.length() - 1; i >= 0; i--) {
            s = s << 8 | text.charAt(i);
        }
        return s;
    }

    boolean write(String text) {
        boolean taken = true;
        for (int i = 0; i < text.length(); i += 8) {
            taken &= ledger.draft(packed(text.substring(i, Math.min(i + 8, text.length()))));
        }
        return taken;
    }

    String reading(String text) {
        due("draft of " + text, write(text), true);
        return outcome(ledger::term);
    }

    /** The number of a term that has to be readable. */
    int read(String text) {
        String outcome = reading(text);
        if (!outcome.matches("\\d+")) {
            due("reading " + text, outcome, "a number");
            return -1;
        }
        return Integer.parseInt(outcome);
    }

    String text(int t) {
        StringBuilder text = new StringBuilder();
        for (int i = 0; i < ledger.text(t, -1); i++) {
            text.append((char) ledger.text(t, i));
        }
        return text.toString();
    }

    String clause(int step) {
        StringJoiner texts = new StringJoiner(", ", "[", "]");
        for (int k = 0; k < ledger.clause(step, -1); k++) {
            texts.add(text(ledger.clause(step, k)));
        }
        return texts.toString();
    }

    /** The clause that a call enters, or the plain name of the exception. */
    String entered(Call call) {
        String outcome = outcome(call);
        return outcome.matches("\\d+") ? clause(Integer.parseInt(outcome)) : outcome;
    }

    int termCount() {
        return ledger.look(-1, 0);
    }

    int stepCount() {
        return ledger.look(-1, 1);
    }

    int thrownCount() {
        return ledger.look(-1, 2);
    }

    /** All that can be asked of a term by look(). */
    String looks(int t) {
        StringJoiner looks = new StringJoiner(" ");
        for (int what = 0; what <= 5; what++) {
            looks.add(String.valueOf(ledger.look(t, what)));
        }
        return looks.toString();
    }

    /** All that can be seen of the ledger, but for the draft and the count of calls that threw. */
    String state() {
        StringBuilder state = new StringBuilder();
        for (int t = 0; t < termCount(); t++) {
            state.append(t).append(' ').append(text(t)).append(' ').append(looks(t)).append('\n');
        }
        for (int i = 0; i < stepCount(); i++) {
            state.append(i).append(' ').append(clause(i)).append(' ').append(ledger.scope(i));
            state.append('\n');
        }
        return state.append(ledger.empty()).toString();
    }

    static String nots(int count, String inside) {
        return "(~ ".repeat(count) + inside + ")".repeat(count);
    }
}
