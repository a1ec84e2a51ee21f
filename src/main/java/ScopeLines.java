import java.util.Arrays;

/**
 * Cuts the lines of a document into tokens by rules with patterns: some rules match a piece of a
 * line, others open a range that goes on, over lines, too, until its end is matched, and inside of
 * which other rules hold.
 */
public final class ScopeLines {
    public static final int NONE = -1;
    public static final int ILL = -2;
    public static final int FULL = -3;
    public static final int OVER = -4;

    private static final int LEAST_BUDGET = 10;
    private static final int MOST_BUDGET = 300;
    private static final int FIRST_CHARACTER = 32;
    private static final int LAST_CHARACTER = 126;
    private static final int DRAFT_ROOM = 40;
    private static final int LINE_ROOM = 24;
    private static final int PATTERN_ROOM = 20;
    private static final int MOST_LINES = 6;
    private static final int MOST_RULES = 9;
    private static final int MOST_GROUPS = 3;
    private static final int MOST_OPEN = 5;
    private static final int MOST_SCOPE = 99;
    private static final int MOST_ENTRIES = 6;
    private static final int MOST_COLOUR = 255;

    private static final int OUTER = 0;
    private static final int TEXTS = 2;

    private final char[] draft = new char[DRAFT_ROOM];
    private int drafted;
    private final Parser parser = new Parser();
    private final Grammar grammar;
    private final Line[] document = new Line[MOST_LINES];
    private int lineCount;
    private int passCount;
    private final Palette palette = new Palette();
    private final State nothingOpen = new State();
    private final State before = new State();

    public ScopeLines(int budget) {
        grammar = new Grammar(Math.max(LEAST_BUDGET, Math.min(MOST_BUDGET, budget)));
        for (int k = 0; k < MOST_LINES; k++) {
            document[k] = new Line();
        }
    }

    public boolean type(long text) {
        int added = 0;
        for (int shift = 56; shift >= 0; shift -= 8) {
            int c = (int) (text >>> shift) & 255;
            if (c != 0 && (c < FIRST_CHARACTER || c > LAST_CHARACTER)) {
                return false;
            }
            added += c != 0 ? 1 : 0;
        }
        if (drafted + added > DRAFT_ROOM) {
            return false;
        }
        for (int shift = 56; shift >= 0; shift -= 8) {
            int c = (int) (text >>> shift) & 255;
            if (c != 0) {
                draft[drafted] = (char) c;
                drafted++;
            }
        }
        return true;
    }

    public void wipe() {
        drafted = 0;
    }

    public int piece(int home, int scope) {
        if (!grammar.isRange(home) || !isScope(scope)) {
            return NONE;
        }
        if (!parser.parse(draft, 0, drafted, false, grammar.nextRule().pattern)) {
            return ILL;
        }
        if (grammar.ruleCount == MOST_RULES) {
            return FULL;
        }
        int number = addRule(home, scope, false);
        tokenizeFrom(0, true);
        return number;
    }

    public int range(int home, int scope) {
        if (!grammar.isRange(home) || !isScope(scope)) {
            return NONE;
        }
        Rule next = grammar.nextRule();
        int blank = firstBlank();
        if (!parser.parse(draft, 0, blank, false, next.pattern)
                || !parser.parse(draft, blank + 1, drafted, true, next.end)) {
            return ILL;
        }
        if (grammar.ruleCount == MOST_RULES) {
            return FULL;
        }
        int number = addRule(home, scope, true);
        tokenizeFrom(0, true);
        return number;
    }

    public boolean include(int r, int other) {
        if (!grammar.isRange(r) || !grammar.isRange(other) || grammar.rules[r].included == other) {
            return false;
        }
        grammar.rules[r].included = other;
        tokenizeFrom(0, true);
        return true;
    }

    public boolean theme(int scope, int parent, int colour) {
        if (!isScope(scope) || parent < 0 || parent > MOST_SCOPE) {
            return false;
        }
        if (colour < 1 || colour > MOST_COLOUR || palette.count == MOST_ENTRIES) {
            return false;
        }
        palette.add(scope, parent, colour);
        return true;
    }

    public int put(int k) {
        if (k < 0 || k > lineCount) {
            return NONE;
        }
        if (drafted > LINE_ROOM) {
            return ILL;
        }
        if (k == MOST_LINES) {
            return FULL;
        }
        document[k].write(draft, drafted);
        drafted = 0;
        lineCount = Math.max(lineCount, k + 1);
        return tokenizeFrom(k, false);
    }

    public int drop(int k) {
        if (!isLine(k)) {
            return NONE;
        }
        Line gone = document[k];
        for (int i = k + 1; i < lineCount; i++) {
            document[i - 1] = document[i];
        }
        lineCount--;
        document[lineCount] = gone;
        return tokenizeFrom(k, false);
    }

    public int lines() {
        return lineCount;
    }

    public int passes() {
        return passCount;
    }

    public int length(int k) {
        return isLine(k) ? document[k].size : NONE;
    }

    public int tokens(int k) {
        return isLine(k) ? document[k].tokenCount : NONE;
    }

    public int token(int k, int t, int w) {
        if (!isLine(k) || t < 0 || t >= document[k].tokenCount) {
            return NONE;
        }
        Line line = document[k];
        switch (w) {
            case 0:
                return line.begins[t];
            case 1:
                return line.scopeCounts[t];
            case 2:
                return line.lastScope(t);
            case 3:
                return palette.colourOf(line, t);
            default:
                return NONE;
        }
    }

    public boolean marked(int k) {
        return isLine(k) && document[k].isMarked;
    }

    public int state(int k, int level) {
        if (!isLine(k)) {
            return NONE;
        }
        State end = document[k].end;
        if (level == -1) {
            return end.open;
        }
        return end.isOpen(level) ? end.ranges[level] : NONE;
    }

    public int text(int k, int level, int t) {
        if (!isLine(k) || t < 1 || t > TEXTS || !document[k].end.isOpen(level)) {
            return NONE;
        }
        return document[k].end.textLength(level, t);
    }

    public int find(int r, int k, int p, int w) {
        if (r < 1 || r > grammar.ruleCount || !isLine(k)) {
            return NONE;
        }
        if (p < 0 || p > document[k].size || w < 0 || w > 2 + 2 * MOST_GROUPS) {
            return NONE;
        }
        Search search = grammar.search;
        search.run(grammar.rules[r].pattern, document[k], p, nothingOpen);
        if (w == 2) {
            return search.steps;
        }
        if (search.isOver) {
            return OVER;
        }
        if (w < 2) {
            return w == 0 ? search.begin : search.end;
        }
        return search.begin == NONE ? NONE : search.groups[w - 3];
    }

    private boolean isLine(int k) {
        return k >= 0 && k < lineCount;
    }

    private static boolean isScope(int scope) {
        return scope >= 1 && scope <= MOST_SCOPE;
    }

    private int firstBlank() {
        for (int i = 0; i < drafted; i++) {
            if (draft[i] == ' ') {
                return i;
            }
        }
        return drafted;
    }

    private int addRule(int home, int scope, boolean isRange) {
        grammar.keepNextRule(home, scope, isRange);
        drafted = 0;
        return grammar.ruleCount;
    }

    /** Stops behind the first line whose end state has not changed, but not if all are asked for. */
    private int tokenizeFrom(int k, boolean all) {
        int done = 0;
        boolean settled = false;
        for (int i = k; i < lineCount && !settled; i++) {
            Line line = document[i];
            before.copy(line.end);
            grammar.tokenize(line, i == 0 ? nothingOpen : document[i - 1].end);
            done++;
            settled = !all && line.end.isSame(before);
        }
        passCount += done;
        return done;
    }

    /** A row of open ranges, each with the texts that its END may name. */
    private static final class State {
        int open;
        final int[] ranges = new int[MOST_OPEN];
        final int[] textLengths = new int[MOST_OPEN * TEXTS];
        final char[] texts = new char[MOST_OPEN * TEXTS * LINE_ROOM];

        boolean isOpen(int level) {
            return level >= 0 && level < open;
        }

        int innermost() {
            return open == 0 ? OUTER : ranges[open - 1];
        }

        int textLength(int level, int t) {
            return textLengths[level * TEXTS + t - 1];
        }

        char textCharacter(int level, int t, int i) {
            return texts[(level * TEXTS + t - 1) * LINE_ROOM + i];
        }

        void push(int range) {
            ranges[open] = range;
            open++;
        }

        /** Keeps what stands from one place of a line to another one as text t of the innermost range. */
        void keepText(int t, Line line, int from, int to) {
            int slot = (open - 1) * TEXTS + t - 1;
            int count = from == NONE ? 0 : to - from;
            textLengths[slot] = count;
            for (int i = 0; i < count; i++) {
                texts[slot * LINE_ROOM + i] = line.characters[from + i];
            }
        }

        void copy(State other) {
            open = other.open;
            System.arraycopy(other.ranges, 0, ranges, 0, MOST_OPEN);
            System.arraycopy(other.textLengths, 0, textLengths, 0, textLengths.length);
            System.arraycopy(other.texts, 0, texts, 0, texts.length);
        }

        boolean isSame(State other) {
            boolean same = open == other.open;
            for (int level = 0; level < open && same; level++) {
                same = ranges[level] == other.ranges[level]
                        && isSameText(other, level * TEXTS) && isSameText(other, level * TEXTS + 1);
            }
            return same;
        }

        private boolean isSameText(State other, int slot) {
            boolean same = textLengths[slot] == other.textLengths[slot];
            for (int i = 0; i < textLengths[slot] && same; i++) {
                same = texts[slot * LINE_ROOM + i] == other.texts[slot * LINE_ROOM + i];
            }
            return same;
        }
    }

    /** A line of the document with its tokens and its end state. */
    private static final class Line {
        /** All open ranges and a PIECE. */
        static final int SCOPE_ROOM = MOST_OPEN + 1;

        final char[] characters = new char[LINE_ROOM];
        int size;
        final int[] begins = new int[LINE_ROOM];
        final int[] scopeCounts = new int[LINE_ROOM];
        final int[] scopes = new int[LINE_ROOM * SCOPE_ROOM];
        int tokenCount;
        boolean isMarked;
        final State end = new State();

        void write(char[] row, int count) {
            System.arraycopy(row, 0, characters, 0, count);
            size = count;
        }

        void addToken(int begin) {
            begins[tokenCount] = begin;
            scopeCounts[tokenCount] = 0;
            tokenCount++;
        }

        void addScope(int scope) {
            int t = tokenCount - 1;
            scopes[t * SCOPE_ROOM + scopeCounts[t]] = scope;
            scopeCounts[t]++;
        }

        int scopeOf(int t, int i) {
            return scopes[t * SCOPE_ROOM + i];
        }

        int lastScope(int t) {
            return scopeCounts[t] == 0 ? 0 : scopeOf(t, scopeCounts[t] - 1);
        }
    }

    /** The theme's entries. */
    private static final class Palette {
        private final int[] scopes = new int[MOST_ENTRIES];
        private final int[] parents = new int[MOST_ENTRIES];
        private final int[] colours = new int[MOST_ENTRIES];
        int count;

        void add(int scope, int parent, int colour) {
            scopes[count] = scope;
            parents[count] = parent;
            colours[count] = colour;
            count++;
        }

        int colourOf(Line line, int t) {
            for (int i = line.scopeCounts[t] - 1; i >= 0; i--) {
                int entry = entryFor(line, t, i);
                if (entry != NONE) {
                    return colours[entry];
                }
            }
            return 0;
        }

        private int entryFor(Line line, int t, int i) {
            int best = NONE;
            for (int entry = 0; entry < count; entry++) {
                if (scopes[entry] == line.scopeOf(t, i) && isUnder(line, t, i, parents[entry])) {
                    boolean outranked = best != NONE && parents[best] != 0 && parents[entry] == 0;
                    best = outranked ? best : entry;
                }
            }
            return best;
        }

        private static boolean isUnder(Line line, int t, int i, int parent) {
            boolean found = parent == 0;
            for (int ahead = 0; ahead < i && !found; ahead++) {
                found = line.scopeOf(t, ahead) == parent;
            }
            return found;
        }
    }

    /**
     * A pattern as a row of instructions. Their offsets are relative, so that a finished block can be
     * moved when something has to stand ahead of it.
     */
    private static final class Pattern {
        static final int CHARACTER = 0;
        static final int ANY = 1;
        static final int SET = 2;
        static final int LINE_BEGIN = 3;
        static final int LINE_END = 4;
        static final int TEXT = 5;
        static final int SPLIT = 6;
        static final int JUMP = 7;
        static final int GROUP_EDGE = 8;
        static final int MATCH = 9;

        /** A character of a pattern makes at most two instructions; the last one is MATCH. */
        static final int CODE_ROOM = 2 * PATTERN_ROOM + 1;
        /** The shortest set has three characters. */
        static final int SET_ROOM = PATTERN_ROOM / 3;

        final int[] ops = new int[CODE_ROOM];
        final int[] firsts = new int[CODE_ROOM];
        final int[] seconds = new int[CODE_ROOM];
        final long[] lowBits = new long[SET_ROOM];
        final long[] highBits = new long[SET_ROOM];
        int size;
        private int setCount;

        void clear() {
            size = 0;
            setCount = 0;
        }

        void append(int op, int first) {
            insert(size, op, first, 0);
        }

        void insert(int at, int op, int first, int second) {
            if (size == CODE_ROOM) {
                return;
            }
            for (int i = size; i > at; i--) {
                ops[i] = ops[i - 1];
                firsts[i] = firsts[i - 1];
                seconds[i] = seconds[i - 1];
            }
            ops[at] = op;
            firsts[at] = first;
            seconds[at] = second;
            size++;
        }

        void appendSet(long low, long high) {
            if (setCount < SET_ROOM) {
                lowBits[setCount] = low;
                highBits[setCount] = high;
                append(SET, setCount);
                setCount++;
            }
        }

        boolean isInSet(int set, char c) {
            int bit = c - FIRST_CHARACTER;
            long bits = bit < 64 ? lowBits[set] : highBits[set];
            return (bits >>> (bit & 63) & 1L) != 0;
        }

        /** Puts a quantifier to the block that goes from start to the end of the row. */
        void repeat(int start, char quantifier, boolean lazy) {
            int block = size - start;
            if (quantifier == '+') {
                insertSplit(size, -block, 1, lazy);
            } else if (quantifier == '?') {
                insertSplit(start, 1, block + 1, lazy);
            } else {
                insertSplit(start, 1, block + 2, lazy);
                append(JUMP, -(block + 1));
            }
        }

        private void insertSplit(int at, int inward, int onward, boolean lazy) {
            insert(at, SPLIT, lazy ? onward : inward, lazy ? inward : onward);
        }

        /** Ends a branch, behind which another one follows; its JUMP is aimed by joinBranches. */
        void endBranch(int start) {
            insert(start, SPLIT, 1, size - start + 2);
            append(JUMP, 0);
        }

        /** Lets all branches but the last one, the first of which begins at start, go on behind it. */
        void joinBranches(int start, int ended) {
            int split = start;
            for (int n = 0; n < ended; n++) {
                int next = split + seconds[split];
                firsts[next - 1] = size - (next - 1);
                split = next;
            }
        }
    }

    /** Makes a pattern out of a row of characters, with a row of levels for the groups that are open. */
    private static final class Parser {
        private static final int LEVELS = MOST_GROUPS + 1;

        private final char[] source = new char[PATTERN_ROOM];
        private int size;
        private int at;
        private boolean inEnd;
        private boolean isBad;
        private int groups;
        private int level;
        private final int[] groupNumbers = new int[LEVELS];
        private final int[] bodies = new int[LEVELS];
        private final int[] branches = new int[LEVELS];
        private final int[] endedBranches = new int[LEVELS];
        private final boolean[] branchIsEmpty = new boolean[LEVELS];
        private final boolean[] someIsEmpty = new boolean[LEVELS];
        private long low;
        private long high;

        /** Whether the row's characters, from one place to another one, are a pattern. */
        boolean parse(char[] row, int from, int to, boolean asEnd, Pattern out) {
            if (to - from < 1 || to - from > PATTERN_ROOM) {
                return false;
            }
            size = to - from;
            System.arraycopy(row, from, source, 0, size);
            at = 0;
            inEnd = asEnd;
            isBad = hasBlank();
            groups = 0;
            level = 0;
            out.clear();
            openLevel(0);
            for (int n = 0; n < PATTERN_ROOM && at < size && !isBad; n++) {
                readNext(out);
            }
            closeLevel(out);
            out.append(Pattern.MATCH, 0);
            return !isBad && level == 0;
        }

        private boolean hasBlank() {
            boolean found = false;
            for (int i = 0; i < size && !found; i++) {
                found = source[i] == ' ';
            }
            return found;
        }

        private void readNext(Pattern out) {
            char c = source[at];
            at++;
            if (c == '|') {
                endBranch(out);
            } else if (c == '(') {
                openGroup(out);
            } else if (c == ')') {
                closeGroup(out);
            } else {
                int start = out.size;
                boolean isEmpty = readAtom(c, out);
                readQuantifier(start, isEmpty, out);
            }
        }

        private void openLevel(int body) {
            bodies[level] = body;
            branches[level] = body;
            endedBranches[level] = 0;
            branchIsEmpty[level] = true;
            someIsEmpty[level] = false;
        }

        /** Whether the pattern of this level can be EMPTY. */
        private boolean closeLevel(Pattern out) {
            out.joinBranches(bodies[level], endedBranches[level]);
            return someIsEmpty[level] || branchIsEmpty[level];
        }

        private void endBranch(Pattern out) {
            out.endBranch(branches[level]);
            endedBranches[level]++;
            branches[level] = out.size;
            someIsEmpty[level] = someIsEmpty[level] || branchIsEmpty[level];
            branchIsEmpty[level] = true;
        }

        private void openGroup(Pattern out) {
            if (groups == MOST_GROUPS) {
                isBad = true;
                return;
            }
            out.append(Pattern.GROUP_EDGE, 2 * groups);
            groups++;
            level++;
            groupNumbers[level] = groups;
            openLevel(out.size);
        }

        private void closeGroup(Pattern out) {
            if (level == 0) {
                isBad = true;
                return;
            }
            boolean isEmpty = closeLevel(out);
            out.append(Pattern.GROUP_EDGE, 2 * groupNumbers[level] - 1);
            int start = bodies[level] - 1;
            level--;
            readQuantifier(start, isEmpty, out);
        }

        /** Whether the atom can be EMPTY. */
        private boolean readAtom(char c, Pattern out) {
            switch (c) {
                case '.':
                    out.append(Pattern.ANY, 0);
                    return false;
                case '^':
                    out.append(Pattern.LINE_BEGIN, 0);
                    return true;
                case '$':
                    out.append(Pattern.LINE_END, 0);
                    return true;
                case '[':
                    readSet(out);
                    return false;
                case '\\':
                    return readEscape(out);
                case '*':
                case '+':
                case '?':
                    isBad = true;
                    return false;
                default:
                    out.append(Pattern.CHARACTER, c);
                    return false;
            }
        }

        private boolean readEscape(Pattern out) {
            if (at == size) {
                isBad = true;
                return false;
            }
            char c = source[at];
            at++;
            if (c < '0' || c > '9') {
                out.append(Pattern.CHARACTER, c);
                return false;
            }
            isBad = !inEnd || c != '1' && c != '2';
            out.append(Pattern.TEXT, c - '0');
            return true;
        }

        private void readSet(Pattern out) {
            boolean isNegated = at < size && source[at] == '^';
            at += isNegated ? 1 : 0;
            int firstItem = at;
            low = 0L;
            high = 0L;
            for (int n = 0; n < PATTERN_ROOM && at < size && source[at] != ']'; n++) {
                readItem();
            }
            if (at == firstItem || at >= size) {
                isBad = true;
                return;
            }
            at++;
            out.appendSet(isNegated ? ~low : low, isNegated ? ~high : high);
        }

        private void readItem() {
            char first = source[at];
            boolean isSpan = at + 2 < size && source[at + 1] == '-' && source[at + 2] != ']';
            char last = isSpan ? source[at + 2] : first;
            at += isSpan ? 3 : 1;
            isBad = isBad || first > last;
            for (int c = first; c <= last; c++) {
                int bit = c - FIRST_CHARACTER;
                low |= bit < 64 ? 1L << bit : 0L;
                high |= bit < 64 ? 0L : 1L << (bit - 64);
            }
        }

        private void readQuantifier(int start, boolean atomIsEmpty, Pattern out) {
            boolean isEmpty = atomIsEmpty;
            char q = at < size ? source[at] : ' ';
            if (!isBad && (q == '*' || q == '+' || q == '?')) {
                at++;
                boolean lazy = at < size && source[at] == '?';
                at += lazy ? 1 : 0;
                isBad = out.ops[start] == Pattern.TEXT || atomIsEmpty && q != '?';
                out.repeat(start, q, lazy);
                isEmpty = q != '+';
            }
            branchIsEmpty[level] = branchIsEmpty[level] && isEmpty;
        }
    }

    /** Searches patterns by backtracking; what is left to be tried waits in a stack of its own. */
    private static final class Search {
        /** At each place of a line an instruction comes up once on a way, as every loop goes onward. */
        private static final int STACK_ROOM = (LINE_ROOM + 1) * PATTERN_ROOM;
        /** Each way back leads to a STEP, which comes at most one row of instructions later. */
        private static final int MOST_MOVES = (MOST_BUDGET + 2) * 2 * Pattern.CODE_ROOM;

        private final int budget;
        final int[] groups = new int[2 * MOST_GROUPS];
        int begin;
        int end;
        int steps;
        boolean isOver;
        private int next;
        private int here;
        private boolean isMatch;
        /** An instruction to go on with at a place or, below 0, a group's edge to be set back. */
        private final int[] waiting = new int[STACK_ROOM];
        private final int[] waitingPlaces = new int[STACK_ROOM];
        private int waitingCount;

        Search(int budget) {
            this.budget = budget;
        }

        /** The texts are those of the innermost range of the state. */
        void run(Pattern pattern, Line line, int from, State state) {
            begin = NONE;
            end = NONE;
            steps = 0;
            isOver = false;
            isMatch = false;
            for (int place = from; place <= line.size && !isMatch && !isOver; place++) {
                Arrays.fill(groups, NONE);
                waitingCount = 0;
                next = 0;
                here = place;
                boolean goesOn = true;
                for (int n = 0; n < MOST_MOVES && goesOn; n++) {
                    goesOn = doNext(pattern, line, state);
                }
                begin = isMatch ? place : NONE;
                end = isMatch ? here : NONE;
            }
        }

        /** Does one instruction; whether there is another one to be done. */
        private boolean doNext(Pattern pattern, Line line, State state) {
            int first = pattern.firsts[next];
            boolean fits = true;
            switch (pattern.ops[next]) {
                case Pattern.MATCH:
                    isMatch = true;
                    return false;
                case Pattern.JUMP:
                    next += first;
                    return true;
                case Pattern.SPLIT:
                    leaveWaiting(next + pattern.seconds[next], here);
                    next += first;
                    return true;
                case Pattern.GROUP_EDGE:
                    leaveWaiting(-1 - first, groups[first]);
                    groups[first] = here;
                    break;
                case Pattern.TEXT:
                    fits = fitsText(line, state, first);
                    break;
                default:
                    fits = makeStep() && fitsAtom(pattern, line, first);
                    break;
            }
            next++;
            return fits || !isOver && goBack();
        }

        private void leaveWaiting(int what, int place) {
            if (waitingCount < STACK_ROOM) {
                waiting[waitingCount] = what;
                waitingPlaces[waitingCount] = place;
                waitingCount++;
            }
        }

        /** Goes back to the last way that waits, and sets groups back on it; false if there is none. */
        private boolean goBack() {
            boolean found = false;
            for (int n = waitingCount; n > 0 && !found; n--) {
                waitingCount = n - 1;
                int what = waiting[n - 1];
                found = what >= 0;
                if (found) {
                    next = what;
                    here = waitingPlaces[n - 1];
                } else {
                    groups[-1 - what] = waitingPlaces[n - 1];
                }
            }
            return found;
        }

        private boolean makeStep() {
            isOver = steps == budget;
            steps += isOver ? 0 : 1;
            return !isOver;
        }

        private boolean fitsAtom(Pattern pattern, Line line, int first) {
            int op = pattern.ops[next];
            if (op == Pattern.LINE_BEGIN) {
                return here == 0;
            }
            if (op == Pattern.LINE_END) {
                return here == line.size;
            }
            if (here >= line.size) {
                return false;
            }
            char c = line.characters[here];
            here++;
            return op == Pattern.ANY
                    || op == Pattern.CHARACTER && c == first
                    || op == Pattern.SET && pattern.isInSet(first, c);
        }

        private boolean fitsText(Line line, State state, int t) {
            int level = state.open - 1;
            int count = level < 0 ? 0 : state.textLength(level, t);
            boolean fits = true;
            for (int i = 0; i < count && fits; i++) {
                fits = makeStep() && here < line.size
                        && line.characters[here] == state.textCharacter(level, t, i);
                here++;
            }
            return fits;
        }
    }

    /** A PIECE with its pattern, or a RANGE with its BEGIN as its pattern and its END. */
    private static final class Rule {
        final Pattern pattern = new Pattern();
        final Pattern end = new Pattern();
        boolean isRange;
        int home;
        int scope;
        int included = NONE;
    }

    /** The rules, and what they make of a line. */
    private static final class Grammar {
        /** Stands for the END of the innermost range among candidates, which are rules otherwise. */
        private static final int OWN_END = 0;
        /** Each match goes onward or closes a range; each onward one opens a range at most. */
        private static final int MOST_MATCHES = 2 * LINE_ROOM + MOST_OPEN + 1;

        /** The OUTER range, the rules, and one more in which a draft is tried when all are there. */
        final Rule[] rules = new Rule[MOST_RULES + 2];
        int ruleCount;
        final Search search;
        private final State now = new State();
        private final int[] candidates = new int[1 + 2 * MOST_RULES];
        private int candidateCount;
        private int winner;
        private int winnerBegin;
        private int winnerEnd;
        private final int[] winnerGroups = new int[2 * MOST_GROUPS];

        Grammar(int budget) {
            search = new Search(budget);
            for (int r = 0; r < rules.length; r++) {
                rules[r] = new Rule();
            }
            rules[OUTER].isRange = true;
        }

        boolean isRange(int r) {
            return r >= 0 && r <= ruleCount && rules[r].isRange;
        }

        Rule nextRule() {
            return rules[ruleCount + 1];
        }

        void keepNextRule(int home, int scope, boolean isRange) {
            Rule rule = nextRule();
            rule.home = home;
            rule.scope = scope;
            rule.isRange = isRange;
            ruleCount++;
        }

        void tokenize(Line line, State start) {
            now.copy(start);
            line.tokenCount = 0;
            line.isMarked = false;
            int q = 0;
            boolean goesOn = true;
            for (int n = 0; n < MOST_MATCHES && goesOn; n++) {
                if (!findWinner(line, q)) {
                    mark(line, start);
                    goesOn = false;
                } else if (isLast(q)) {
                    cut(line, q, line.size);
                    goesOn = false;
                } else {
                    cut(line, q, winnerBegin);
                    takeWinner(line);
                    q = winnerEnd;
                }
            }
            line.end.copy(now);
        }

        private void mark(Line line, State start) {
            now.copy(start);
            line.tokenCount = 0;
            line.isMarked = true;
            cut(line, 0, line.size);
        }

        /** False if a search was OVER; each candidate is searched, as any of them can be. */
        private boolean findWinner(Line line, int q) {
            Rule innermost = rules[now.innermost()];
            listCandidates();
            winner = NONE;
            for (int i = 0; i < candidateCount; i++) {
                int candidate = candidates[i];
                Pattern pattern = candidate == OWN_END ? innermost.end : rules[candidate].pattern;
                search.run(pattern, line, q, now);
                if (search.isOver) {
                    return false;
                }
                if (search.begin != NONE && (winner == NONE || search.begin < winnerBegin)) {
                    keepWinner(candidate);
                }
            }
            return true;
        }

        private void listCandidates() {
            int range = now.innermost();
            candidateCount = 0;
            if (range != OUTER) {
                candidates[0] = OWN_END;
                candidateCount = 1;
            }
            listRulesOf(range);
            if (rules[range].included != NONE) {
                listRulesOf(rules[range].included);
            }
        }

        private void listRulesOf(int range) {
            for (int r = 1; r <= ruleCount; r++) {
                if (rules[r].home == range) {
                    candidates[candidateCount] = r;
                    candidateCount++;
                }
            }
        }

        private void keepWinner(int candidate) {
            winner = candidate;
            winnerBegin = search.begin;
            winnerEnd = search.end;
            System.arraycopy(search.groups, 0, winnerGroups, 0, winnerGroups.length);
        }

        private boolean isLast(int q) {
            if (winner == NONE) {
                return true;
            }
            boolean isOwnEnd = winner == OWN_END;
            boolean isTooDeep = !isOwnEnd && rules[winner].isRange && now.open == MOST_OPEN;
            return !isOwnEnd && winnerEnd == q || isTooDeep;
        }

        private void takeWinner(Line line) {
            if (winner == OWN_END) {
                cut(line, winnerBegin, winnerEnd);
                now.open--;
            } else if (rules[winner].isRange) {
                now.push(winner);
                now.keepText(1, line, winnerGroups[0], winnerGroups[1]);
                now.keepText(2, line, winnerGroups[2], winnerGroups[3]);
                cut(line, winnerBegin, winnerEnd);
            } else if (cut(line, winnerBegin, winnerEnd)) {
                line.addScope(rules[winner].scope);
            }
        }

        /** Makes a token with the scopes of the open ranges; false if it would have no characters. */
        private boolean cut(Line line, int from, int to) {
            if (from == to) {
                return false;
            }
            line.addToken(from);
            for (int level = 0; level < now.open; level++) {
                line.addScope(rules[now.ranges[level]].scope);
            }
            return true;
        }
    }
}
