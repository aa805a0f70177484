import java.io.IOException;
import java.nio.file.Files;
import java.nio.file.Path;
import java.util.HashMap;
import java.util.Map;
import java.util.StringJoiner;

/**
 * A ledger under test with short ways to use it, and the count of what was not as due. Every call
 * goes through here and is counted, as the document promises nothing after an object's 512th.
 */
final class Bench {
    static final int MOST_CALLS = 512;
    static final int LOWEST = Integer.MIN_VALUE;
    static final int HIGHEST = Integer.MAX_VALUE;

    static final String MISSING = "IndexOutOfBoundsException";
    static final String WRONG = "IllegalArgumentException";
    static final String TOO_GREAT = "ArithmeticException";
    static final String NO_ROOM = "IllegalStateException";

    private static final String DOCUMENT = document();
    private static int wrong = 0;

    private final ClauseLedger ledger = new ClauseLedger();
    private final Map<Integer, String> texts = new HashMap<>();
    private int calls = 0;

    interface Call {
        int answer();
    }

    /** Holds the program to one sentence of the document, and names it if it is broken. */
    static void holds(String sentence, Runnable test) {
        if (!DOCUMENT.isEmpty() && !DOCUMENT.contains(sentence)) {
            System.out.println("note: the document does not say (any more): " + sentence);
        }
        int before = wrong;
        try {
            test.run();
        } catch (RuntimeException e) {
            wrong++;
            System.out.println("a call threw " + e + " where an answer is due");
        }
        if (wrong > before) {
            System.out.println("BROKEN: " + sentence);
        }
    }

    private static String document() {
        try {
            return Files.readString(Path.of("../shared/DOC.md")).replaceAll("\\s+", " ");
        } catch (IOException e) {
            return "";
        }
    }

    static void due(String what, Object got, Object want) {
        if (!String.valueOf(got).equals(String.valueOf(want))) {
            wrong++;
            System.out.println(what + ": answered " + brief(got) + ", due is " + brief(want));
        }
    }

    private static String brief(Object answer) {
        String text = String.valueOf(answer);
        return text.length() <= 400 ? text : text.substring(0, 400) + " ..";
    }

    /** Ends the test; the exit code tells whether all was as due. */
    static void end() {
        System.exit(wrong == 0 ? 0 : 1);
    }

    /** The answer in digits, or the plain name of the exception. */
    static String outcome(Call call) {
        try {
            return String.valueOf(call.answer());
        } catch (RuntimeException e) {
            return e.getClass().getSimpleName();
        }
    }

    static void answers(String what, Call call, int want) {
        due(what, outcome(call), want);
    }

    /** Up to eight characters as draft() takes them. */
    static long packed(String text) {
        long s = 0;
        for (int i = text.length() - 1; i >= 0; i--) {
            s = s << 8 | text.charAt(i);
        }
        return s;
    }

    static String nots(int count, String inside) {
        return "(~ ".repeat(count) + inside + ")".repeat(count);
    }

    int calls() {
        return calls;
    }

    private ClauseLedger use() {
        calls++;
        if (calls == MOST_CALLS + 1) {
            due("calls that a test makes on one object", "more", MOST_CALLS);
        }
        return ledger;
    }

    int sort() {
        return use().sort();
    }

    int symbol(int sort, int first, int second) {
        return use().symbol(sort, first, second);
    }

    boolean variable(int v, int sort) {
        return use().variable(v, sort);
    }

    boolean draft(long s) {
        return use().draft(s);
    }

    int term() {
        return use().term();
    }

    int assume(int t) {
        return use().assume(t);
    }

    int cut(int i, int t, int j) {
        return use().cut(i, t, j);
    }

    int widen(int i, int t) {
        return use().widen(i, t);
    }

    int meaning(int t, int which) {
        return use().meaning(t, which);
    }

    int same(int t) {
        return use().same(t);
    }

    int chain(int t, int u) {
        return use().chain(t, u);
    }

    int turn(int t) {
        return use().turn(t);
    }

    int replace(int t, int u) {
        return use().replace(t, u);
    }

    int linear(int t, int u, int v, int first, int second, int third) {
        return use().linear(t, u, v, first, second, third);
    }

    int instance(int t, int u) {
        return use().instance(t, u);
    }

    int open() {
        return use().open();
    }

    int close() {
        return use().close();
    }

    int clause(int step, int k) {
        return use().clause(step, k);
    }

    int scope(int step) {
        return use().scope(step);
    }

    int empty() {
        return use().empty();
    }

    int look(int t, int what) {
        return use().look(t, what);
    }

    int text(int t, int i) {
        return use().text(t, i);
    }

    int termCount() {
        return look(-1, 0);
    }

    int stepCount() {
        return look(-1, 1);
    }

    int thrownCount() {
        return look(-1, 2);
    }

    /** So many symbols of one sort, without arguments. */
    Bench symbols(int count, int sort) {
        for (int i = 0; i < count; i++) {
            symbol(sort, -1, -1);
        }
        return this;
    }

    boolean write(String text) {
        boolean taken = true;
        for (int i = 0; i < text.length(); i += 8) {
            taken &= draft(packed(text.substring(i, Math.min(i + 8, text.length()))));
        }
        return taken;
    }

    String reading(String text) {
        due("draft of " + text, write(text), true);
        return outcome(this::term);
    }

    /** The number of a term that has to be readable. */
    int read(String text) {
        String outcome = reading(text);
        if (!outcome.matches("\\d+")) {
            due("reading " + text, outcome, "a number");
            return -1;
        }
        return Integer.parseInt(outcome);
    }

    /** The step by which a truth is assumed. */
    int assume(String text) {
        return assume(read(text));
    }

    /** A step whose clause has these truths. */
    int step(String... texts) {
        int step = assume(texts[0]);
        for (int i = 1; i < texts.length; i++) {
            step = widen(step, read(texts[i]));
        }
        return step;
    }

    /** linear() of up to three truths with their factors. */
    Call linearOf(String[] texts, int... factors) {
        int[] t = {-1, -1, -1};
        int[] f = {0, 0, 0};
        for (int i = 0; i < texts.length; i++) {
            t[i] = read(texts[i]);
            f[i] = factors[i];
        }
        return () -> linear(t[0], t[1], t[2], f[0], f[1], f[2]);
    }

    /** Reads constants that are not there until there are so many terms. */
    void fillTermsTo(int count) {
        int there = termCount();
        for (int i = 0; i < count - there; i++) {
            read(String.valueOf(20000 + i));
        }
        due("terms", termCount(), count);
    }

    void fillStepsTo(int count, int truth) {
        int there = stepCount();
        for (int i = 0; i < count - there; i++) {
            assume(truth);
        }
        due("steps", stepCount(), count);
    }

    /** A term's text never changes, so it is asked for once. */
    String textOf(int t) {
        if (!texts.containsKey(t)) {
            StringBuilder text = new StringBuilder();
            int length = text(t, -1);
            for (int i = 0; i < length; i++) {
                text.append((char) text(t, i));
            }
            texts.put(t, text.toString());
        }
        return texts.get(t);
    }

    String clauseOf(int step) {
        StringJoiner row = new StringJoiner(", ", "[", "]");
        int size = clause(step, -1);
        for (int k = 0; k < size; k++) {
            row.add(textOf(clause(step, k)));
        }
        return row.toString();
    }

    /** The clause that a call enters, or the plain name of the exception. */
    String entered(Call call) {
        String outcome = outcome(call);
        return outcome.matches("\\d+") ? clauseOf(Integer.parseInt(outcome)) : outcome;
    }

    /** The call makes the next step, and that has this clause. */
    void enters(Call call, String clause) {
        int next = stepCount();
        String outcome = outcome(call);
        due("step for " + clause, outcome, next);
        if (outcome.equals(String.valueOf(next))) {
            due("clause", clauseOf(next), clause);
        }
    }

    /** The call throws, is counted, and makes neither a term nor a step. */
    void refuses(String what, Call call, String exception) {
        String before = termCount() + " terms, " + stepCount() + " steps";
        int thrown = thrownCount();
        due(what, outcome(call), exception);
        due(what + ": count", termCount() + " terms, " + stepCount() + " steps", before);
        due(what + ": calls that have thrown", thrownCount(), thrown + 1);
    }

    /** All that can be asked of a term by look(). */
    String looks(int t) {
        StringJoiner looks = new StringJoiner(" ");
        for (int what = 0; what <= 5; what++) {
            looks.add(String.valueOf(look(t, what)));
        }
        return looks.toString();
    }

    /** What can be seen of the ledger, but for its draft and the count of calls that threw. */
    String state() {
        StringBuilder state = new StringBuilder();
        int terms = termCount();
        for (int t = 0; t <= terms; t++) {
            state.append(looks(t)).append(' ').append(text(t, -1)).append('\n');
        }
        int steps = stepCount();
        for (int i = 0; i <= steps; i++) {
            state.append(scope(i));
            int size = clause(i, -1);
            for (int k = -1; k < size; k++) {
                state.append(' ').append(clause(i, k));
            }
            state.append('\n');
        }
        return state.append(empty()).toString();
    }
}
