import java.util.Arrays;

/**
 * A ledger of clauses over terms: a step enters a clause when a rule grants it from clauses that
 * stand. Every rule first tries its terms and its row out; only when nothing speaks against them
 * are they kept, so that a call that throws leaves no trace but in the count of such calls.
 */
public final class ClauseLedger {
    private static final int NONE = -1;

    private static final int TRUTH = 0;
    private static final int NUMBER = 1;

    private static final int SYMBOL = 0;
    private static final int VARIABLE = 1;
    private static final int CONSTANT = 2;
    private static final int PLUS = 3;
    private static final int TIMES = 4;
    private static final int EQUAL = 5;
    private static final int LESS = 6;
    private static final int NOT = 7;
    private static final int AND = 8;
    private static final int OR = 9;
    private static final int ALL = 10;

    /** The marks of the kinds from PLUS on, in the order of the kinds. */
    private static final String MARKS = "+*=<~&|!";

    private static final int MOST_TERMS = 100;
    private static final int MOST_DEPTH = 12;
    private static final int MOST_TRUTHS = 8;
    private static final int MOST_STEPS = 60;
    private static final int MOST_SCOPES = 20;
    private static final int MOST_THROWN = 60;

    private final Signature signature;
    private final Terms terms;
    private final Draft draft;
    private final Reader reader;
    private final Writer writer;
    private final Putting putting;
    private final Balance balance;
    private final Row row;
    private final Scopes scopes;
    private final Steps steps;
    private int thrown;

    public ClauseLedger() {
        signature = new Signature();
        terms = new Terms();
        draft = new Draft();
        reader = new Reader(draft, signature, terms);
        writer = new Writer(terms);
        putting = new Putting(terms);
        balance = new Balance(terms);
        row = new Row();
        scopes = new Scopes();
        steps = new Steps();
    }

    public int sort() {
        return signature.addSort();
    }

    public int symbol(int sort, int first, int second) {
        return signature.addSymbol(sort, first, second);
    }

    public boolean variable(int v, int sort) {
        return terms.count() == 0 && signature.setVariable(v, sort);
    }

    public boolean draft(long s) {
        return draft.append(s);
    }

    public int term() throws IllegalArgumentException, ArithmeticException, IllegalStateException {
        if (isShut()) {
            return NONE;
        }
        int t = reader.read();
        draft.wipe();
        if (t == NONE) {
            return throwWrong();
        }
        if (terms.tooDeep()) {
            return throwTooGreat();
        }
        if (terms.tooMany()) {
            return throwNoRoom();
        }
        terms.keep();
        return t;
    }

    public int assume(int t)
            throws IndexOutOfBoundsException, IllegalArgumentException, IllegalStateException {
        if (isShut()) {
            return NONE;
        }
        if (!terms.has(t)) {
            return throwMissing();
        }
        if (!terms.isTruth(t)) {
            return throwWrong();
        }
        row.wipe();
        row.join(t);
        return enterRow(scopes.innermost(), true);
    }

    public int cut(int i, int t, int j)
            throws IndexOutOfBoundsException, IllegalArgumentException, ArithmeticException,
            IllegalStateException {
        if (isShut()) {
            return NONE;
        }
        if (!stands(i) || !terms.has(t) || !stands(j)) {
            return throwMissing();
        }
        int opposite = terms.findOpposite(t);
        if (opposite == NONE || !steps.holds(i, t) || !steps.holds(j, opposite)) {
            return throwWrong();
        }
        row.wipe();
        joinAllBut(i, t);
        joinAllBut(j, opposite);
        return enterRow(scopes.innermost(), false);
    }

    public int widen(int i, int t)
            throws IndexOutOfBoundsException, IllegalArgumentException, IllegalStateException {
        if (isShut()) {
            return NONE;
        }
        if (!stands(i) || !terms.has(t)) {
            return throwMissing();
        }
        if (!terms.isTruth(t)) {
            return throwWrong();
        }
        row.wipe();
        joinAllBut(i, NONE);
        row.join(t);
        return enterRow(scopes.innermost(), false);
    }

    public int meaning(int t, int which)
            throws IndexOutOfBoundsException, IllegalArgumentException, ArithmeticException,
            IllegalStateException {
        if (isShut()) {
            return NONE;
        }
        if (!terms.has(t)) {
            return throwMissing();
        }
        row.wipe();
        if (!joinMeaning(t, which)) {
            return throwWrong();
        }
        return enterRow(scopes.innermost(), false);
    }

    public int same(int t)
            throws IndexOutOfBoundsException, ArithmeticException, IllegalStateException {
        if (isShut()) {
            return NONE;
        }
        if (!terms.has(t)) {
            return throwMissing();
        }
        row.wipe();
        row.join(terms.equation(t, t));
        return enterRow(scopes.innermost(), false);
    }

    public int chain(int t, int u)
            throws IndexOutOfBoundsException, IllegalArgumentException, ArithmeticException,
            IllegalStateException {
        if (isShut()) {
            return NONE;
        }
        if (!terms.has(t) || !terms.has(u)) {
            return throwMissing();
        }
        if (terms.kindOf(t) != EQUAL || terms.kindOf(u) != EQUAL
                || terms.secondOf(t) != terms.firstOf(u)) {
            return throwWrong();
        }
        row.wipe();
        row.join(terms.opposite(t));
        row.join(terms.opposite(u));
        row.join(terms.equation(terms.firstOf(t), terms.secondOf(u)));
        return enterRow(scopes.innermost(), false);
    }

    public int turn(int t)
            throws IndexOutOfBoundsException, IllegalArgumentException, ArithmeticException,
            IllegalStateException {
        if (isShut()) {
            return NONE;
        }
        if (!terms.has(t)) {
            return throwMissing();
        }
        if (terms.kindOf(t) != EQUAL) {
            return throwWrong();
        }
        row.wipe();
        row.join(terms.opposite(t));
        row.join(terms.equation(terms.secondOf(t), terms.firstOf(t)));
        return enterRow(scopes.innermost(), false);
    }

    public int replace(int t, int u)
            throws IndexOutOfBoundsException, IllegalArgumentException, ArithmeticException,
            IllegalStateException {
        if (isShut()) {
            return NONE;
        }
        if (!terms.has(t) || !terms.has(u)) {
            return throwMissing();
        }
        row.wipe();
        if (!isReplaceable(t, u)
                || !joinDifference(terms.firstOf(t), terms.firstOf(u))
                || !joinDifference(terms.secondOf(t), terms.secondOf(u))) {
            return throwWrong();
        }
        row.join(terms.equation(t, u));
        return enterRow(scopes.innermost(), false);
    }

    public int linear(int t, int u, int v, int first, int second, int third)
            throws IndexOutOfBoundsException, IllegalArgumentException, ArithmeticException,
            IllegalStateException {
        if (isShut()) {
            return NONE;
        }
        if (!terms.has(t) || !isTermOrNone(u) || !isTermOrNone(v)) {
            return throwMissing();
        }
        if ((u == NONE && v != NONE) || !balance.takes(t, first)
                || !balance.takes(u, second) || !balance.takes(v, third)) {
            return throwWrong();
        }
        balance.start();
        balance.load(t, first);
        balance.load(u, second);
        balance.load(v, third);
        if (balance.tooGreat()) {
            return throwTooGreat();
        }
        if (!balance.grants()) {
            return throwWrong();
        }
        row.wipe();
        row.join(t);
        row.join(u);
        row.join(v);
        return enterRow(scopes.innermost(), false);
    }

    public int instance(int t, int u)
            throws IndexOutOfBoundsException, IllegalArgumentException, ArithmeticException,
            IllegalStateException {
        if (isShut()) {
            return NONE;
        }
        if (!terms.has(t) || !terms.has(u)) {
            return throwMissing();
        }
        int v = terms.nameOf(t);
        if (terms.kindOf(t) != ALL || terms.sortOf(u) != signature.sortOfVariable(v)) {
            return throwWrong();
        }
        row.wipe();
        row.join(terms.opposite(t));
        row.join(putting.put(u, v, terms.firstOf(t)));
        if (putting.failed()) {
            return throwWrong();
        }
        return enterRow(scopes.innermost(), false);
    }

    public int open() throws IllegalStateException {
        if (isShut()) {
            return NONE;
        }
        if (scopes.isFull()) {
            return throwNoRoom();
        }
        return scopes.openInner();
    }

    public int close()
            throws IllegalArgumentException, ArithmeticException, IllegalStateException {
        if (isShut()) {
            return NONE;
        }
        int inner = scopes.innermost();
        int latest = steps.latestIn(inner);
        if (inner == Scopes.OUTERMOST || latest == NONE) {
            return throwWrong();
        }
        row.wipe();
        joinOppositesAssumedIn(inner);
        joinAllBut(latest, NONE);
        int step = enterRow(scopes.around(inner), false);
        scopes.closeInner();
        return step;
    }

    public int clause(int step, int k) {
        return k == -1 ? steps.sizeOf(step) : steps.truthOf(step, k);
    }

    public int scope(int step) {
        if (!steps.has(step)) {
            return NONE;
        }
        return scopes.depthOf(steps.scopeOf(step)) + (stands(step) ? 0 : 100);
    }

    public int empty() {
        for (int i = 0; i < steps.count(); i++) {
            if (steps.scopeOf(i) == Scopes.OUTERMOST && steps.sizeOf(i) == 0) {
                return i;
            }
        }
        return NONE;
    }

    public int look(int t, int what) {
        if (t == -1) {
            return lookAtLedger(what);
        }
        if (!terms.has(t)) {
            return -2;
        }
        switch (what) {
            case 0: return terms.kindOf(t);
            case 1: return terms.sortOf(t);
            case 2: return terms.depthOf(t);
            case 3: return terms.firstOf(t);
            case 4: return terms.secondOf(t);
            case 5: return terms.nameOf(t);
            default: return -2;
        }
    }

    public int text(int t, int i) {
        if (!terms.has(t)) {
            return -2;
        }
        if (i == -1) {
            return terms.lengthOf(t);
        }
        return i < 0 || i >= terms.lengthOf(t) ? -2 : writer.letter(t, i);
    }

    private int lookAtLedger(int what) {
        switch (what) {
            case 0: return terms.count();
            case 1: return steps.count();
            case 2: return thrown;
            default: return -2;
        }
    }

    private boolean isShut() {
        return thrown >= MOST_THROWN;
    }

    private boolean stands(int step) {
        // A scope is closed only after those inside it, so the step's own scope decides.
        return steps.has(step) && !scopes.isClosed(steps.scopeOf(step));
    }

    private boolean isTermOrNone(int t) {
        return t == NONE || terms.has(t);
    }

    private boolean joinMeaning(int t, int which) {
        int p = terms.firstOf(t);
        int q = terms.secondOf(t);
        switch (terms.kindOf(t)) {
            case AND: return joinMeaningOfAnd(t, p, q, which);
            case OR: return joinMeaningOfOr(t, p, q, which);
            case EQUAL: return terms.isTruth(p) && joinMeaningOfEqual(t, p, q, which);
            default: return false;
        }
    }

    private boolean joinMeaningOfAnd(int t, int p, int q, int which) {
        switch (which) {
            case 0: return joinThree(terms.opposite(t), p, NONE);
            case 1: return joinThree(terms.opposite(t), q, NONE);
            case 2: return joinThree(t, terms.opposite(p), terms.opposite(q));
            default: return false;
        }
    }

    private boolean joinMeaningOfOr(int t, int p, int q, int which) {
        switch (which) {
            case 0: return joinThree(terms.opposite(t), p, q);
            case 1: return joinThree(t, terms.opposite(p), NONE);
            case 2: return joinThree(t, terms.opposite(q), NONE);
            default: return false;
        }
    }

    private boolean joinMeaningOfEqual(int t, int p, int q, int which) {
        switch (which) {
            case 0: return joinThree(terms.opposite(t), terms.opposite(p), q);
            case 1: return joinThree(terms.opposite(t), p, terms.opposite(q));
            case 2: return joinThree(t, p, q);
            case 3: return joinThree(t, terms.opposite(p), terms.opposite(q));
            default: return false;
        }
    }

    private boolean joinThree(int p, int q, int r) {
        row.join(p);
        row.join(q);
        row.join(r);
        return true;
    }

    private boolean isReplaceable(int t, int u) {
        int kind = terms.kindOf(t);
        return kind == terms.kindOf(u) && kind != ALL && terms.firstOf(t) != NONE
                && terms.nameOf(t) == terms.nameOf(u);
    }

    private boolean joinDifference(int p, int q) {
        if (p == q) {
            return true;
        }
        if (terms.sortOf(p) != terms.sortOf(q)) {
            return false;
        }
        row.join(terms.opposite(terms.equation(p, q)));
        return true;
    }

    private void joinAllBut(int step, int left) {
        for (int k = 0; k < steps.sizeOf(step); k++) {
            if (steps.truthOf(step, k) != left) {
                row.join(steps.truthOf(step, k));
            }
        }
    }

    private void joinOppositesAssumedIn(int scope) {
        for (int i = 0; i < steps.count(); i++) {
            if (steps.scopeOf(i) == scope && steps.isAssumed(i)) {
                row.join(terms.opposite(steps.truthOf(i, 0)));
            }
        }
    }

    private int enterRow(int scope, boolean assumed) {
        if (terms.tooDeep()) {
            return throwTooGreat();
        }
        if (terms.tooMany() || row.size() > MOST_TRUTHS || steps.isFull()) {
            return throwNoRoom();
        }
        terms.keep();
        return steps.add(row, scope, assumed);
    }

    private void undo() {
        thrown++;
        terms.takeBack();
    }

    private int throwMissing() {
        undo();
        throw new IndexOutOfBoundsException("no such term, or no such step that stands");
    }

    private int throwWrong() {
        undo();
        throw new IllegalArgumentException("not of the form that is asked for, or not granted");
    }

    private int throwTooGreat() {
        undo();
        throw new ArithmeticException("a term too deep, or a sum too great");
    }

    private int throwNoRoom() {
        undo();
        throw new IllegalStateException("no room");
    }

    private static long gcd(long a, long b) {
        long x = a < 0 ? -a : a;
        long y = b < 0 ? -b : b;
        // Two longs take at most some 90 rounds.
        for (int i = 0; i < 200 && y != 0; i++) {
            long rest = x % y;
            x = y;
            y = rest;
        }
        return x;
    }

    /** Which sorts there are, and what the symbols and variables are of. */
    private static final class Signature {
        private static final int MOST_SORTS = 5;
        private static final int MOST_SYMBOLS = 12;

        private final int[] sorts = new int[MOST_SYMBOLS];
        private final int[] firsts = new int[MOST_SYMBOLS];
        private final int[] seconds = new int[MOST_SYMBOLS];
        private final int[] variables = {NUMBER, NUMBER, NUMBER};
        private int sortCount = 2;
        private int symbolCount = 0;

        int addSort() {
            if (sortCount >= MOST_SORTS) {
                return NONE;
            }
            sortCount++;
            return sortCount - 1;
        }

        int addSymbol(int sort, int first, int second) {
            if (symbolCount >= MOST_SYMBOLS || !isSort(sort) || !isSortOrNone(first)
                    || !isSortOrNone(second) || (first == NONE && second != NONE)) {
                return NONE;
            }
            sorts[symbolCount] = sort;
            firsts[symbolCount] = first;
            seconds[symbolCount] = second;
            symbolCount++;
            return symbolCount - 1;
        }

        boolean setVariable(int v, int sort) {
            if (!isVariable(v) || !isSort(sort)) {
                return false;
            }
            variables[v] = sort;
            return true;
        }

        boolean isSymbol(int symbol) {
            return symbol >= 0 && symbol < symbolCount;
        }

        boolean isVariable(int v) {
            return v >= 0 && v < variables.length;
        }

        int sortOfSymbol(int symbol) {
            return isSymbol(symbol) ? sorts[symbol] : NONE;
        }

        int firstOfSymbol(int symbol) {
            return isSymbol(symbol) ? firsts[symbol] : NONE;
        }

        int secondOfSymbol(int symbol) {
            return isSymbol(symbol) ? seconds[symbol] : NONE;
        }

        int sortOfVariable(int v) {
            return isVariable(v) ? variables[v] : NONE;
        }

        private boolean isSort(int sort) {
            return sort >= 0 && sort < sortCount;
        }

        private boolean isSortOrNone(int sort) {
            return sort == NONE || isSort(sort);
        }
    }

    /**
     * The terms, each once. New ones are on trial until keep() or takeBack(): which exception is
     * due can depend on all that a call would make, so a trial may go beyond the limits.
     */
    private static final class Terms {
        // On trial a call makes at most one term for each that is there, and the opposite of one.
        private static final int ROOM = 2 * MOST_TERMS + 8;

        private final int[] kinds = new int[ROOM];
        private final int[] sorts = new int[ROOM];
        private final int[] names = new int[ROOM];
        private final int[] firsts = new int[ROOM];
        private final int[] seconds = new int[ROOM];
        private final int[] tops = new int[ROOM];
        private final int[] bottoms = new int[ROOM];
        private final int[] depths = new int[ROOM];
        private final int[] lengths = new int[ROOM];
        private final int[] frees = new int[ROOM];
        private final long[] keys = new long[ROOM];
        private int count = 0;
        private int kept = 0;
        private boolean deep = false;

        int count() {
            return count;
        }

        boolean has(int t) {
            return t >= 0 && t < count;
        }

        int kindOf(int t) {
            return has(t) ? kinds[t] : NONE;
        }

        int sortOf(int t) {
            return has(t) ? sorts[t] : NONE;
        }

        boolean isTruth(int t) {
            return sortOf(t) == TRUTH;
        }

        int nameOf(int t) {
            return has(t) ? names[t] : NONE;
        }

        int firstOf(int t) {
            return has(t) ? firsts[t] : NONE;
        }

        int secondOf(int t) {
            return has(t) ? seconds[t] : NONE;
        }

        int topOf(int t) {
            return has(t) ? tops[t] : 0;
        }

        int bottomOf(int t) {
            return has(t) ? bottoms[t] : 1;
        }

        int depthOf(int t) {
            return has(t) ? depths[t] : 0;
        }

        int lengthOf(int t) {
            return has(t) ? lengths[t] : 0;
        }

        boolean isFree(int v, int t) {
            return (freeOf(t) & 1 << v) != 0;
        }

        boolean tooDeep() {
            return deep;
        }

        boolean tooMany() {
            return count > MOST_TERMS;
        }

        void keep() {
            kept = count;
            deep = false;
        }

        void takeBack() {
            count = kept;
            deep = false;
        }

        int make(int kind, int sort, int name, int first, int second) {
            long key = keyOf(kind, name, first, second);
            int there = find(key, Math.max(first, second) + 1);
            if (there != NONE) {
                return there;
            }
            int t = append(key, kind, sort, name);
            firsts[t] = first;
            seconds[t] = second;
            depths[t] = 1 + Math.max(depthOf(first), depthOf(second));
            lengths[t] = Writer.length(kind, first != NONE, lengthOf(first))
                    + (second == NONE ? 0 : 1 + lengthOf(second));
            frees[t] = freeBy(kind, name, freeOf(first) | freeOf(second));
            deep = deep || depths[t] > MOST_DEPTH;
            return t;
        }

        int makeConstant(int top, int bottom) {
            long key = keyOf(CONSTANT, NONE, top, bottom);
            int there = find(key, 0);
            if (there != NONE) {
                return there;
            }
            int t = append(key, CONSTANT, NUMBER, NONE);
            firsts[t] = NONE;
            seconds[t] = NONE;
            tops[t] = top;
            bottoms[t] = bottom;
            depths[t] = 1;
            lengths[t] = Writer.lengthOfConstant(top, bottom);
            frees[t] = 0;
            return t;
        }

        int equation(int p, int q) {
            return make(EQUAL, TRUTH, NONE, p, q);
        }

        int opposite(int t) {
            return kindOf(t) == NOT ? firstOf(t) : make(NOT, TRUTH, NONE, t, NONE);
        }

        /** The opposite without making it: NONE if it is not there. */
        int findOpposite(int t) {
            return kindOf(t) == NOT ? firstOf(t) : find(keyOf(NOT, NONE, t, NONE), t + 1);
        }

        private int freeOf(int t) {
            return has(t) ? frees[t] : 0;
        }

        private static int freeBy(int kind, int name, int freeInParts) {
            if (kind == VARIABLE) {
                return 1 << name;
            }
            return kind == ALL ? freeInParts & ~(1 << name) : freeInParts;
        }

        /** One number for all that tells terms apart; both of a pair lie within -10^5 .. 10^5. */
        private static long keyOf(int kind, int name, int first, int second) {
            long pair = (first + 100000L) * 262144L + (second + 100000L);
            return pair * 256L + (name + 1) * 16L + kind;
        }

        private int find(long key, int from) {
            for (int t = Math.max(from, 0); t < count; t++) {
                if (keys[t] == key) {
                    return t;
                }
            }
            return NONE;
        }

        private int append(long key, int kind, int sort, int name) {
            int t = Math.min(count, ROOM - 1);
            count = t + 1;
            keys[t] = key;
            kinds[t] = kind;
            sorts[t] = sort;
            names[t] = name;
            return t;
        }
    }

    /** The characters that wait to be read. */
    private static final class Draft {
        private static final int MOST = 120;

        private final char[] letters = new char[MOST];
        private int size = 0;

        int size() {
            return size;
        }

        void wipe() {
            size = 0;
        }

        /** Beyond the end stands the character 0, which no draft can have. */
        char letter(int i) {
            return i >= 0 && i < size ? letters[i] : 0;
        }

        boolean append(long s) {
            int added = 0;
            for (int i = 0; i < 8 && byteOf(s, i) != 0; i++) {
                if (byteOf(s, i) < 32 || byteOf(s, i) > 126) {
                    return false;
                }
                added++;
            }
            if (added == 0 || size + added > MOST) {
                return false;
            }
            for (int i = 0; i < added; i++) {
                letters[size + i] = (char) byteOf(s, i);
            }
            size += added;
            return true;
        }

        private static int byteOf(long s, int i) {
            return (int) (s >>> 8 * i) & 255;
        }
    }

    /** Reads the draft as a term; each method answers NONE where the text is none. */
    private static final class Reader {
        private static final int MOST_BRACKETS = 12;
        private static final int MOST_DIGITS = 5;

        private final Draft draft;
        private final Signature signature;
        private final Terms terms;
        private int position = 0;

        Reader(Draft draft, Signature signature, Terms terms) {
            this.draft = draft;
            this.signature = signature;
            this.terms = terms;
        }

        int read() {
            position = 0;
            int t = readAny(0);
            return position == draft.size() ? t : NONE;
        }

        private int readAny(int brackets) {
            char c = draft.letter(position);
            if (c == '(') {
                return brackets < MOST_BRACKETS ? readBracket(brackets + 1) : NONE;
            }
            if (c >= 'a' && c <= 'l') {
                return readBareSymbol();
            }
            if (c >= 'x' && c <= 'z') {
                int v = readVariable();
                return terms.make(VARIABLE, signature.sortOfVariable(v), v, NONE, NONE);
            }
            return readConstant();
        }

        private int readBareSymbol() {
            int symbol = draft.letter(position) - 'a';
            position++;
            if (!signature.isSymbol(symbol) || signature.firstOfSymbol(symbol) != NONE) {
                return NONE;
            }
            return terms.make(SYMBOL, signature.sortOfSymbol(symbol), symbol, NONE, NONE);
        }

        private int readVariable() {
            int v = draft.letter(position) - 'x';
            position++;
            return signature.isVariable(v) ? v : NONE;
        }

        private int readBracket(int brackets) {
            char c = draft.letter(position + 1);
            position += 2;
            if (c >= 'a' && c <= 'l') {
                return readApplied(c - 'a', brackets);
            }
            if (c == '~') {
                return readOverTruth(NOT, NONE, brackets);
            }
            if (c == '!') {
                int v = take(' ') ? readVariable() : NONE;
                return v == NONE ? NONE : readOverTruth(ALL, v, brackets);
            }
            int mark = MARKS.indexOf(c);
            return mark < 0 ? NONE : readOverTwo(PLUS + mark, brackets);
        }

        private int readApplied(int symbol, int brackets) {
            int firstSort = signature.firstOfSymbol(symbol);
            int secondSort = signature.secondOfSymbol(symbol);
            if (firstSort == NONE) {
                return NONE;
            }
            int first = readPart(brackets);
            if (terms.sortOf(first) != firstSort) {
                return NONE;
            }
            int second = secondSort == NONE ? NONE : readPart(brackets);
            if (terms.sortOf(second) != secondSort || !take(')')) {
                return NONE;
            }
            return terms.make(SYMBOL, signature.sortOfSymbol(symbol), symbol, first, second);
        }

        private int readOverTruth(int kind, int name, int brackets) {
            int part = readPart(brackets);
            if (!terms.isTruth(part) || !take(')')) {
                return NONE;
            }
            return terms.make(kind, TRUTH, name, part, NONE);
        }

        private int readOverTwo(int kind, int brackets) {
            int first = readPart(brackets);
            if (first == NONE) {
                return NONE;
            }
            int second = readPart(brackets);
            if (second == NONE || !take(')') || !canBePartsOf(kind, first, second)) {
                return NONE;
            }
            return terms.make(kind, kind <= TIMES ? NUMBER : TRUTH, NONE, first, second);
        }

        private boolean canBePartsOf(int kind, int first, int second) {
            if (kind == EQUAL) {
                return terms.sortOf(first) == terms.sortOf(second);
            }
            if (kind == TIMES) {
                return terms.kindOf(first) == CONSTANT && terms.sortOf(second) == NUMBER;
            }
            int sort = kind == PLUS || kind == LESS ? NUMBER : TRUTH;
            return terms.sortOf(first) == sort && terms.sortOf(second) == sort;
        }

        private int readPart(int brackets) {
            return take(' ') ? readAny(brackets) : NONE;
        }

        private int readConstant() {
            boolean below = take('-');
            int top = readDigits();
            int bottom = take('/') ? readDigits() : 1;
            if (top == NONE || bottom == NONE || bottom == 0) {
                return NONE;
            }
            int common = (int) gcd(top, bottom);
            if (common == 0) {
                return NONE;
            }
            return terms.makeConstant((below ? -top : top) / common, bottom / common);
        }

        private int readDigits() {
            int value = 0;
            int digits = 0;
            while (digits <= MOST_DIGITS && isDigit(draft.letter(position))) {
                value = 10 * value + (draft.letter(position) - '0');
                digits++;
                position++;
            }
            return digits == 0 || digits > MOST_DIGITS ? NONE : value;
        }

        private static boolean isDigit(char c) {
            return c >= '0' && c <= '9';
        }

        private boolean take(char c) {
            if (draft.letter(position) != c) {
                return false;
            }
            position++;
            return true;
        }
    }

    /**
     * Tells single characters of a term's text. A text can be thousands of characters long, as
     * terms share parts, so it is never written out: the way down to the character is short.
     */
    private static final class Writer {
        private final Terms terms;

        Writer(Terms terms) {
            this.terms = terms;
        }

        /** How long a text is but for the blank and the second part. */
        static int length(int kind, boolean hasParts, int firstLength) {
            return hasParts ? headLength(kind) + firstLength + 1 : 1;
        }

        static int lengthOfConstant(int top, int bottom) {
            int length = (top < 0 ? 1 : 0) + digitsOf(Math.abs(top));
            return bottom == 1 ? length : length + 1 + digitsOf(bottom);
        }

        char letter(int t, int i) {
            int at = t;
            int left = i;
            for (int level = 0; level < MOST_DEPTH && terms.firstOf(at) != NONE; level++) {
                int first = terms.firstOf(at);
                int head = headLength(terms.kindOf(at));
                if (left < head) {
                    return letterOfHead(at, left);
                }
                left -= head;
                if (left < terms.lengthOf(first)) {
                    at = first;
                    continue;
                }
                left -= terms.lengthOf(first);
                int second = terms.secondOf(at);
                if (second == NONE || left > terms.lengthOf(second)) {
                    return ')';
                }
                if (left == 0) {
                    return ' ';
                }
                left--;
                at = second;
            }
            return letterOfLeaf(at, left);
        }

        private static int headLength(int kind) {
            return kind == ALL ? 5 : 3;
        }

        private char letterOfHead(int t, int i) {
            switch (i) {
                case 0: return '(';
                case 1: return letterOfMark(t);
                case 3: return (char) ('x' + terms.nameOf(t));
                default: return ' ';
            }
        }

        private char letterOfMark(int t) {
            int mark = terms.kindOf(t) - PLUS;
            if (mark < 0 || mark >= MARKS.length()) {
                return (char) ('a' + terms.nameOf(t));
            }
            return MARKS.charAt(mark);
        }

        private char letterOfLeaf(int t, int i) {
            switch (terms.kindOf(t)) {
                case SYMBOL: return (char) ('a' + terms.nameOf(t));
                case VARIABLE: return (char) ('x' + terms.nameOf(t));
                default: return letterOfConstant(terms.topOf(t), terms.bottomOf(t), i);
            }
        }

        private static char letterOfConstant(int top, int bottom, int i) {
            int sign = top < 0 ? 1 : 0;
            if (i < sign) {
                return '-';
            }
            int size = digitsOf(Math.abs(top));
            int place = i - sign;
            if (place < size) {
                return digit(Math.abs(top), size - 1 - place);
            }
            if (place == size) {
                return '/';
            }
            return digit(bottom, digitsOf(bottom) - 1 - (place - size - 1));
        }

        private static int digitsOf(int value) {
            int digits = 1;
            for (int rest = value / 10; rest > 0 && digits < 10; rest /= 10) {
                digits++;
            }
            return digits;
        }

        private static char digit(int value, int place) {
            int rest = value;
            for (int i = 0; i < place; i++) {
                rest /= 10;
            }
            return (char) ('0' + rest % 10);
        }
    }

    /** Puts a term for a variable. What becomes of a term is kept, as terms share parts. */
    private static final class Putting {
        private final Terms terms;
        private final int[] results = new int[MOST_TERMS];
        private int variable = 0;
        private int value = NONE;
        private boolean failed = false;

        Putting(Terms terms) {
            this.terms = terms;
        }

        boolean failed() {
            return failed;
        }

        int put(int u, int v, int t) {
            Arrays.fill(results, NONE);
            variable = v;
            value = u;
            failed = false;
            return putIn(t, 1);
        }

        private int putIn(int t, int level) {
            if (!terms.isFree(variable, t)) {
                return t;
            }
            if (terms.kindOf(t) == VARIABLE) {
                return value;
            }
            failed = failed || isCaught(t) || level > MOST_DEPTH || t >= results.length;
            if (failed) {
                return t;
            }
            if (results[t] == NONE) {
                int first = putIn(terms.firstOf(t), level + 1);
                int second = putIn(terms.secondOf(t), level + 1);
                results[t] = terms.make(terms.kindOf(t), terms.sortOf(t), terms.nameOf(t),
                        first, second);
            }
            return results[t];
        }

        /** The variable is free in t; a ! that binds what the new term has free is in the way. */
        private boolean isCaught(int t) {
            return terms.kindOf(t) == ALL && terms.isFree(terms.nameOf(t), value);
        }
    }

    /** A constant and coefficients of atoms, exact; once too great, its entries mean nothing. */
    private static final class Sum {
        private static final long MOST = 1000000000L;

        private final int[] atoms;
        private final long[] tops;
        private final long[] bottoms;
        private int size = 0;
        private boolean tooGreat = false;

        /** The constant is kept as the coefficient of the atom NONE. */
        Sum(int capacity) {
            atoms = new int[capacity];
            tops = new long[capacity];
            bottoms = new long[capacity];
        }

        int size() {
            return size;
        }

        boolean isTooGreat() {
            return tooGreat;
        }

        void wipe() {
            size = 0;
            tooGreat = false;
        }

        /** Adds other times top / bottom: neither the product nor the whole may be too great. */
        void addTimes(Sum other, long top, long bottom) {
            tooGreat = tooGreat || other.tooGreat;
            for (int i = 0; i < other.size && !tooGreat; i++) {
                addEntry(other.atoms[i], other.tops[i] * top, other.bottoms[i] * bottom);
            }
        }

        void addEntry(int atom, long top, long bottom) {
            long common = gcd(top, bottom);
            if (common == 0 || isBeyond(top / common, bottom / common)) {
                tooGreat = true;
                return;
            }
            int i = placeOf(atom);
            if (i == NONE) {
                tooGreat = true;
                return;
            }
            // All parts lie within 10^9, so no product is above 10^18.
            long t = tops[i] * (bottom / common) + top / common * bottoms[i];
            long b = bottoms[i] * (bottom / common);
            long shared = gcd(t, b);
            if (shared == 0 || isBeyond(t / shared, b / shared)) {
                tooGreat = true;
                return;
            }
            tops[i] = t / shared;
            bottoms[i] = b / shared;
        }

        boolean hasAtom() {
            for (int i = 0; i < size; i++) {
                if (atoms[i] != NONE && tops[i] != 0) {
                    return true;
                }
            }
            return false;
        }

        /** Below 0, 0 or above 0, as the constant is. */
        int signOfConstant() {
            for (int i = 0; i < size; i++) {
                if (atoms[i] == NONE) {
                    return Long.compare(tops[i], 0);
                }
            }
            return 0;
        }

        private int placeOf(int atom) {
            for (int i = 0; i < size; i++) {
                if (atoms[i] == atom) {
                    return i;
                }
            }
            if (size >= atoms.length) {
                return NONE;
            }
            atoms[size] = atom;
            tops[size] = 0;
            bottoms[size] = 1;
            size++;
            return size - 1;
        }

        private static boolean isBeyond(long top, long bottom) {
            return top < -MOST || top > MOST || bottom > MOST;
        }
    }

    /** Weighs truths by factors, for the rule of linear(). */
    private static final class Balance {
        private static final int MOST_FACTOR = 99;
        private static final int MOST_ENTRIES = MOST_TERMS + 1;

        private final Terms terms;
        // What a term's sum is never changes, and terms share parts: each is worked out once.
        private final Sum[] sums = new Sum[MOST_TERMS];
        private final Sum nothing = new Sum(0);
        private final Sum excess = new Sum(MOST_ENTRIES);
        private final Sum total = new Sum(MOST_ENTRIES);
        private boolean strict = false;

        Balance(Terms terms) {
            this.terms = terms;
        }

        /** Whether a truth, or none, is of a form that can be weighed by the factor. */
        boolean takes(int t, int factor) {
            if (t == NONE) {
                return true;
            }
            if (factor > MOST_FACTOR || factor < -MOST_FACTOR) {
                return false;
            }
            return isOpposedEquation(t) || (factor >= 0 && terms.kindOf(inside(t)) == LESS);
        }

        void start() {
            total.wipe();
            strict = false;
        }

        void load(int t, int factor) {
            if (t == NONE) {
                return;
            }
            int p = terms.firstOf(inside(t));
            int q = terms.secondOf(inside(t));
            boolean turned = terms.kindOf(t) == NOT && terms.kindOf(inside(t)) == LESS;
            excess.wipe();
            excess.addTimes(sumOf(turned ? q : p, 1), 1, 1);
            excess.addTimes(sumOf(turned ? p : q, 1), -1, 1);
            total.addTimes(excess, factor, 1);
            strict = strict || (terms.kindOf(t) == LESS && factor > 0);
        }

        boolean tooGreat() {
            return total.isTooGreat();
        }

        boolean grants() {
            int sign = total.signOfConstant();
            return !total.hasAtom() && (sign < 0 || (sign == 0 && strict));
        }

        private int inside(int t) {
            return terms.kindOf(t) == NOT ? terms.firstOf(t) : t;
        }

        private boolean isOpposedEquation(int t) {
            int equation = inside(t);
            return terms.kindOf(t) == NOT && terms.kindOf(equation) == EQUAL
                    && terms.sortOf(terms.firstOf(equation)) == NUMBER;
        }

        private Sum sumOf(int t, int level) {
            if (t < 0 || t >= sums.length || level > MOST_DEPTH) {
                return nothing;
            }
            Sum sum = sums[t];
            if (sum == null) {
                sum = workOut(t, level);
                sums[t] = sum;
            }
            return sum;
        }

        private Sum workOut(int t, int level) {
            if (terms.kindOf(t) == CONSTANT) {
                return single(NONE, terms.topOf(t), terms.bottomOf(t));
            }
            if (terms.kindOf(t) != PLUS && terms.kindOf(t) != TIMES) {
                return single(t, 1, 1);
            }
            Sum second = sumOf(terms.secondOf(t), level + 1);
            if (terms.kindOf(t) == TIMES) {
                return product(terms.firstOf(t), second);
            }
            Sum first = sumOf(terms.firstOf(t), level + 1);
            Sum sum = new Sum(Math.min(first.size() + second.size(), MOST_ENTRIES));
            sum.addTimes(first, 1, 1);
            sum.addTimes(second, 1, 1);
            return sum;
        }

        private Sum product(int constant, Sum other) {
            Sum sum = new Sum(other.size());
            sum.addTimes(other, terms.topOf(constant), terms.bottomOf(constant));
            return sum;
        }

        private static Sum single(int atom, int top, int bottom) {
            Sum sum = new Sum(1);
            sum.addEntry(atom, top, bottom);
            return sum;
        }
    }

    /** The row of different truths that a rule is putting together. */
    private static final class Row {
        // close() may join an opposite for every step, and a clause behind them.
        private final int[] truths = new int[MOST_STEPS + MOST_TRUTHS];
        private int size = 0;

        int size() {
            return size;
        }

        int truth(int k) {
            return k >= 0 && k < size ? truths[k] : NONE;
        }

        void wipe() {
            size = 0;
        }

        /** NONE is joined nowhere. */
        void join(int t) {
            if (t == NONE || size >= truths.length) {
                return;
            }
            for (int k = 0; k < size; k++) {
                if (truths[k] == t) {
                    return;
                }
            }
            truths[size] = t;
            size++;
        }
    }

    /** Which scopes were opened, what lies in what, and which are closed. */
    private static final class Scopes {
        static final int OUTERMOST = 0;

        private final int[] arounds = new int[MOST_SCOPES + 1];
        private final int[] depths = new int[MOST_SCOPES + 1];
        private final boolean[] closed = new boolean[MOST_SCOPES + 1];
        private int count = 1;
        private int innermost = OUTERMOST;

        int innermost() {
            return innermost;
        }

        boolean isFull() {
            return count > MOST_SCOPES;
        }

        int around(int scope) {
            return has(scope) ? arounds[scope] : OUTERMOST;
        }

        int depthOf(int scope) {
            return has(scope) ? depths[scope] : 0;
        }

        boolean isClosed(int scope) {
            return has(scope) && closed[scope];
        }

        int openInner() {
            if (isFull()) {
                return NONE;
            }
            arounds[count] = innermost;
            depths[count] = depthOf(innermost) + 1;
            innermost = count;
            count++;
            return depths[innermost];
        }

        void closeInner() {
            if (innermost != OUTERMOST) {
                closed[innermost] = true;
                innermost = arounds[innermost];
            }
        }

        private boolean has(int scope) {
            return scope >= 0 && scope < count;
        }
    }

    /** The steps, each with its clause and its scope. */
    private static final class Steps {
        private final int[] truths = new int[MOST_STEPS * MOST_TRUTHS];
        private final int[] sizes = new int[MOST_STEPS];
        private final int[] scopes = new int[MOST_STEPS];
        private final boolean[] assumed = new boolean[MOST_STEPS];
        private int count = 0;

        int count() {
            return count;
        }

        boolean isFull() {
            return count >= MOST_STEPS;
        }

        boolean has(int step) {
            return step >= 0 && step < count;
        }

        int sizeOf(int step) {
            return has(step) ? sizes[step] : NONE;
        }

        int truthOf(int step, int k) {
            return k >= 0 && k < sizeOf(step) ? truths[step * MOST_TRUTHS + k] : NONE;
        }

        int scopeOf(int step) {
            return has(step) ? scopes[step] : NONE;
        }

        boolean isAssumed(int step) {
            return has(step) && assumed[step];
        }

        boolean holds(int step, int t) {
            for (int k = 0; k < sizeOf(step); k++) {
                if (truthOf(step, k) == t) {
                    return true;
                }
            }
            return false;
        }

        int latestIn(int scope) {
            for (int i = count - 1; i >= 0; i--) {
                if (scopes[i] == scope) {
                    return i;
                }
            }
            return NONE;
        }

        int add(Row row, int scope, boolean isAssumed) {
            if (isFull()) {
                return NONE;
            }
            int step = count;
            int size = Math.min(row.size(), MOST_TRUTHS);
            for (int k = 0; k < size; k++) {
                truths[step * MOST_TRUTHS + k] = row.truth(k);
            }
            sizes[step] = size;
            scopes[step] = scope;
            assumed[step] = isAssumed;
            count++;
            return step;
        }
    }
}
