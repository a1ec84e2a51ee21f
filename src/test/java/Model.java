import java.util.ArrayList;
import java.util.List;

/**
 * The document's words once more, in the plainest form: patterns are trees, MATCHING works off a row
 * of things by recursion, states are lists. The tests compare the program with it.
 */
final class Model {
    static final class Ill extends RuntimeException {
        private static final long serialVersionUID = 1L;
    }

    static final class Over extends RuntimeException {
        private static final long serialVersionUID = 1L;
    }

    enum Kind { CHARACTER, ANY, SET, BEGIN, END, TEXT, GROUP, STAR, PLUS, MAYBE, CLOSE }

    static final class Node {
        final Kind kind;
        int number;
        boolean lazy;
        boolean negated;
        String items = "";
        List<List<Node>> branches = new ArrayList<>();
        Node inner;

        Node(Kind kind) {
            this.kind = kind;
        }

        boolean canBeEmpty() {
            switch (kind) {
                case BEGIN: case END: case TEXT: case STAR: case MAYBE:
                    return true;
                case GROUP:
                    return branches.stream().anyMatch(b -> b.stream().allMatch(Node::canBeEmpty));
                default:
                    return false;
            }
        }
    }

    /** A row of things that are left, from its front. */
    static final class Row {
        final Node front;
        final Row rest;

        Row(Node front, Row rest) {
            this.front = front;
            this.rest = rest;
        }
    }

    static final class Reader {
        final String s;
        final boolean inEnd;
        int at;
        int groups;

        Reader(String s, boolean inEnd) {
            this.s = s;
            this.inEnd = inEnd;
        }

        static Node read(String s, boolean inEnd) {
            if (s.isEmpty() || s.length() > 20 || s.indexOf(' ') >= 0) {
                throw new Ill();
            }
            Reader reader = new Reader(s, inEnd);
            Node whole = new Node(Kind.GROUP);
            whole.branches = reader.pattern();
            if (reader.at < s.length()) {
                throw new Ill();
            }
            return whole;
        }

        boolean sees(String any) {
            return at < s.length() && any.indexOf(s.charAt(at)) >= 0;
        }

        char take() {
            if (at >= s.length()) {
                throw new Ill();
            }
            return s.charAt(at++);
        }

        List<List<Node>> pattern() {
            List<List<Node>> branches = new ArrayList<>();
            branches.add(branch());
            while (sees("|")) {
                take();
                branches.add(branch());
            }
            return branches;
        }

        List<Node> branch() {
            List<Node> pieces = new ArrayList<>();
            while (at < s.length() && !sees("|)")) {
                pieces.add(piece());
            }
            return pieces;
        }

        Node piece() {
            Node atom = atom();
            if (!sees("*+?")) {
                return atom;
            }
            char q = take();
            Node piece = new Node(q == '*' ? Kind.STAR : q == '+' ? Kind.PLUS : Kind.MAYBE);
            piece.inner = atom;
            if (sees("?")) {
                take();
                piece.lazy = true;
            }
            if (atom.kind == Kind.TEXT || q != '?' && atom.canBeEmpty()) {
                throw new Ill();
            }
            return piece;
        }

        Node character(char c) {
            Node node = new Node(Kind.CHARACTER);
            node.number = c;
            return node;
        }

        Node atom() {
            char c = take();
            switch (c) {
                case '(': {
                    if (groups == 3) {
                        throw new Ill();
                    }
                    Node group = new Node(Kind.GROUP);
                    group.number = ++groups;
                    group.branches = pattern();
                    if (take() != ')') {
                        throw new Ill();
                    }
                    return group;
                }
                case '.':
                    return new Node(Kind.ANY);
                case '^':
                    return new Node(Kind.BEGIN);
                case '$':
                    return new Node(Kind.END);
                case '[':
                    return set();
                case '\\': {
                    char d = take();
                    if (!Character.isDigit(d)) {
                        return character(d);
                    }
                    if (!inEnd || d != '1' && d != '2') {
                        throw new Ill();
                    }
                    Node text = new Node(Kind.TEXT);
                    text.number = d - '0';
                    return text;
                }
                case '*': case '+': case '?': case ')': case '|':
                    throw new Ill();
                default:
                    return character(c);
            }
        }

        Node set() {
            Node set = new Node(Kind.SET);
            if (sees("^")) {
                take();
                set.negated = true;
            }
            StringBuilder items = new StringBuilder();
            while (!sees("]")) {
                char c = take();
                char d = c;
                if (sees("-") && at + 1 < s.length() && s.charAt(at + 1) != ']') {
                    take();
                    d = take();
                }
                if (c > d) {
                    throw new Ill();
                }
                for (char i = c; i <= d; i++) {
                    items.append(i);
                }
            }
            take();
            if (items.length() == 0) {
                throw new Ill();
            }
            set.items = items.toString();
            return set;
        }
    }

    /** What a SEARCH found; groups[2n - 2] and groups[2n - 1] are the START and END of group n. */
    static final class Found {
        boolean over;
        int begin = -1;
        int end = -1;
        int steps;
        int[] groups = {-1, -1, -1, -1, -1, -1, -1, -1};
    }

    final class Matching {
        final String line;
        final String[] texts;
        int steps;
        int[] way;

        Matching(String line, String[] texts) {
            this.line = line;
            this.texts = texts;
        }

        void step() {
            if (steps == budget) {
                throw new Over();
            }
            steps++;
        }

        /** Where the MATCH ends, or -1; the groups of the way are kept. */
        int go(Row row, int i, int[] groups) {
            if (row == null) {
                way = groups;
                return i;
            }
            Node x = row.front;
            Row rest = row.rest;
            switch (x.kind) {
                case GROUP:
                    return goGroup(x, rest, i, groups);
                case CLOSE: {
                    int[] closed = groups.clone();
                    closed[2 * x.number - 1] = i;
                    return go(rest, i, closed);
                }
                case STAR: {
                    int one = go(x.lazy ? rest : new Row(x.inner, row), i, groups);
                    return one >= 0 ? one : go(x.lazy ? new Row(x.inner, row) : rest, i, groups);
                }
                case PLUS: {
                    Node star = new Node(Kind.STAR);
                    star.inner = x.inner;
                    star.lazy = x.lazy;
                    return go(new Row(x.inner, new Row(star, rest)), i, groups);
                }
                case MAYBE: {
                    int one = go(x.lazy ? rest : new Row(x.inner, rest), i, groups);
                    return one >= 0 ? one : go(x.lazy ? new Row(x.inner, rest) : rest, i, groups);
                }
                case TEXT: {
                    int here = i;
                    for (char c : texts[x.number - 1].toCharArray()) {
                        step();
                        if (here >= line.length() || line.charAt(here) != c) {
                            return -1;
                        }
                        here++;
                    }
                    return go(rest, here, groups);
                }
                default:
                    return goAtom(x, rest, i, groups);
            }
        }

        int goGroup(Node x, Row rest, int i, int[] groups) {
            Row behind = rest;
            int[] opened = groups;
            if (x.number > 0) {
                opened = groups.clone();
                opened[2 * x.number - 2] = i;
                Node close = new Node(Kind.CLOSE);
                close.number = x.number;
                behind = new Row(close, rest);
            }
            for (List<Node> branch : x.branches) {
                Row row = behind;
                for (int n = branch.size() - 1; n >= 0; n--) {
                    row = new Row(branch.get(n), row);
                }
                int end = go(row, i, opened);
                if (end >= 0) {
                    return end;
                }
            }
            return -1;
        }

        int goAtom(Node x, Row rest, int i, int[] groups) {
            step();
            if (x.kind == Kind.BEGIN || x.kind == Kind.END) {
                return i == (x.kind == Kind.BEGIN ? 0 : line.length()) ? go(rest, i, groups) : -1;
            }
            if (i >= line.length()) {
                return -1;
            }
            char c = line.charAt(i);
            boolean fits = x.kind == Kind.ANY
                    || x.kind == Kind.CHARACTER && x.number == c
                    || x.kind == Kind.SET && x.items.indexOf(c) >= 0 != x.negated;
            return fits ? go(rest, i + 1, groups) : -1;
        }
    }

    Found search(Node pattern, String line, int from, String[] texts) {
        Found found = new Found();
        Matching matching = new Matching(line, texts);
        try {
            for (int p = from; p <= line.length() && found.begin < 0; p++) {
                int end = matching.go(new Row(pattern, null), p, new int[] {-1, -1, -1, -1, -1, -1});
                if (end >= 0) {
                    found.begin = p;
                    found.end = end;
                    found.groups = matching.way;
                }
            }
        } catch (Over e) {
            found.over = true;
        }
        found.steps = matching.steps;
        return found;
    }

    static final class Rule {
        boolean range;
        int home = -1;
        int scope;
        int included = -1;
        Node pattern;
        Node end;
    }

    static final class Open {
        final int range;
        final String[] texts;

        Open(int range, String[] texts) {
            this.range = range;
            this.texts = texts;
        }

        String told() {
            return range + "<" + texts[0] + "><" + texts[1] + ">";
        }
    }

    static final class Token {
        int begin;
        List<Integer> scopes = new ArrayList<>();
    }

    static final class Line {
        String line;
        boolean marked;
        List<Token> tokens = new ArrayList<>();
        List<Open> end;
    }

    final int budget;
    String draft = "";
    final List<Rule> rules = new ArrayList<>();
    final List<Line> document = new ArrayList<>();
    final List<int[]> entries = new ArrayList<>();
    int passes;

    Model(int budget) {
        this.budget = budget < 10 ? 10 : budget > 300 ? 300 : budget;
        Rule outer = new Rule();
        outer.range = true;
        rules.add(outer);
    }

    boolean type(long text) {
        StringBuilder more = new StringBuilder(draft);
        for (int n = 7; n >= 0; n--) {
            int c = (int) (text >> 8 * n & 255L);
            if (c == 0) {
                continue;
            }
            if (c < 32 || c > 126) {
                return false;
            }
            more.append((char) c);
        }
        if (more.length() > 40) {
            return false;
        }
        draft = more.toString();
        return true;
    }

    void wipe() {
        draft = "";
    }

    boolean isRange(int r) {
        return r >= 0 && r < rules.size() && rules.get(r).range;
    }

    int piece(int home, int scope) {
        return make(home, scope, false);
    }

    int range(int home, int scope) {
        return make(home, scope, true);
    }

    private int make(int home, int scope, boolean range) {
        if (!isRange(home) || scope < 1 || scope > 99) {
            return -1;
        }
        Rule rule = new Rule();
        rule.range = range;
        rule.home = home;
        rule.scope = scope;
        try {
            if (range) {
                int blank = draft.indexOf(' ');
                if (blank < 0) {
                    throw new Ill();
                }
                rule.pattern = Reader.read(draft.substring(0, blank), false);
                rule.end = Reader.read(draft.substring(blank + 1), true);
            } else {
                rule.pattern = Reader.read(draft, false);
            }
        } catch (Ill e) {
            return -2;
        }
        if (rules.size() == 10) {
            return -3;
        }
        rules.add(rule);
        draft = "";
        retokenize(0, true);
        return rules.size() - 1;
    }

    boolean include(int r, int other) {
        if (!isRange(r) || !isRange(other) || rules.get(r).included == other) {
            return false;
        }
        rules.get(r).included = other;
        retokenize(0, true);
        return true;
    }

    boolean theme(int scope, int parent, int colour) {
        if (scope < 1 || scope > 99 || parent < 0 || parent > 99 || colour < 1 || colour > 255) {
            return false;
        }
        if (entries.size() == 6) {
            return false;
        }
        entries.add(new int[] {scope, parent, colour});
        return true;
    }

    int put(int k) {
        if (k < 0 || k > document.size()) {
            return -1;
        }
        if (draft.length() > 24) {
            return -2;
        }
        if (k == 6) {
            return -3;
        }
        Line line = new Line();
        line.line = draft;
        draft = "";
        if (k == document.size()) {
            document.add(line);
        } else {
            line.end = document.get(k).end;
            document.set(k, line);
        }
        return retokenize(k, false);
    }

    int drop(int k) {
        if (k < 0 || k >= document.size()) {
            return -1;
        }
        document.remove(k);
        return retokenize(k, false);
    }

    private int retokenize(int from, boolean all) {
        int done = 0;
        for (int k = from; k < document.size(); k++) {
            Line line = document.get(k);
            List<Open> before = line.end;
            tokenize(line, k == 0 ? new ArrayList<>() : document.get(k - 1).end);
            done++;
            if (!all && before != null && told(before).equals(told(line.end))) {
                break;
            }
        }
        passes += done;
        return done;
    }

    private static String told(List<Open> open) {
        StringBuilder all = new StringBuilder();
        for (Open o : open) {
            all.append(o.told());
        }
        return all.toString();
    }

    private void tokenize(Line line, List<Open> start) {
        line.marked = false;
        line.tokens = new ArrayList<>();
        List<Open> open = new ArrayList<>(start);
        int q = 0;
        while (true) {
            Rule inner = open.isEmpty() ? rules.get(0) : rules.get(open.get(open.size() - 1).range);
            int innerNumber = open.isEmpty() ? 0 : open.get(open.size() - 1).range;
            String[] texts = open.isEmpty() ? new String[] {"", ""} : open.get(open.size() - 1).texts;
            List<Integer> candidates = new ArrayList<>();
            if (innerNumber != 0) {
                candidates.add(0);
            }
            for (int pass = 0; pass < 2; pass++) {
                int home = pass == 0 ? innerNumber : inner.included;
                for (int r = 1; r < rules.size() && home >= 0; r++) {
                    if (rules.get(r).home == home) {
                        candidates.add(r);
                    }
                }
            }
            Found best = null;
            int chosen = -1;
            boolean over = false;
            for (int c : candidates) {
                Found found = search(c == 0 ? inner.end : rules.get(c).pattern, line.line, q, texts);
                over |= found.over;
                if (!found.over && found.begin >= 0 && (best == null || found.begin < best.begin)) {
                    best = found;
                    chosen = c;
                }
            }
            if (over) {
                line.marked = true;
                line.tokens.clear();
                line.end = start;
                token(line, 0, line.line.length(), start, 0);
                return;
            }
            if (best == null || chosen != 0 && best.end == q
                    || chosen > 0 && rules.get(chosen).range && open.size() == 5) {
                token(line, q, line.line.length(), open, 0);
                line.end = open;
                return;
            }
            token(line, q, best.begin, open, 0);
            if (chosen == 0) {
                token(line, best.begin, best.end, open, 0);
                open.remove(open.size() - 1);
            } else if (rules.get(chosen).range) {
                String[] enclosed = {"", ""};
                for (int g = 0; g < 2; g++) {
                    if (best.groups[2 * g] >= 0) {
                        enclosed[g] = line.line.substring(best.groups[2 * g], best.groups[2 * g + 1]);
                    }
                }
                open.add(new Open(chosen, enclosed));
                token(line, best.begin, best.end, open, 0);
            } else {
                token(line, best.begin, best.end, open, rules.get(chosen).scope);
            }
            q = best.end;
        }
    }

    private void token(Line line, int from, int to, List<Open> open, int last) {
        if (from == to) {
            return;
        }
        Token token = new Token();
        token.begin = from;
        for (Open o : open) {
            token.scopes.add(rules.get(o.range).scope);
        }
        if (last > 0) {
            token.scopes.add(last);
        }
        line.tokens.add(token);
    }

    int lines() {
        return document.size();
    }

    int passes() {
        return passes;
    }

    private Line lineOf(int k) {
        return k >= 0 && k < document.size() ? document.get(k) : null;
    }

    int length(int k) {
        return lineOf(k) == null ? -1 : lineOf(k).line.length();
    }

    int tokens(int k) {
        return lineOf(k) == null ? -1 : lineOf(k).tokens.size();
    }

    int token(int k, int t, int w) {
        Line line = lineOf(k);
        if (line == null || t < 0 || t >= line.tokens.size() || w < 0 || w > 3) {
            return -1;
        }
        Token token = line.tokens.get(t);
        int n = token.scopes.size();
        return w == 0 ? token.begin : w == 1 ? n : w == 2 ? (n == 0 ? 0 : token.scopes.get(n - 1))
                : colour(token.scopes);
    }

    private int colour(List<Integer> scopes) {
        for (int i = scopes.size() - 1; i >= 0; i--) {
            int under = 0;
            int anywhere = 0;
            for (int[] e : entries) {
                if (e[0] == scopes.get(i) && e[1] == 0) {
                    anywhere = e[2];
                } else if (e[0] == scopes.get(i) && scopes.subList(0, i).contains(e[1])) {
                    under = e[2];
                }
            }
            if (under > 0 || anywhere > 0) {
                return under > 0 ? under : anywhere;
            }
        }
        return 0;
    }

    boolean marked(int k) {
        return lineOf(k) != null && lineOf(k).marked;
    }

    int state(int k, int level) {
        Line line = lineOf(k);
        if (line == null) {
            return -1;
        }
        if (level == -1) {
            return line.end.size();
        }
        return level < 0 || level >= line.end.size() ? -1 : line.end.get(level).range;
    }

    int text(int k, int level, int t) {
        if (state(k, level) < 1 || level < 0 || t < 1 || t > 2) {
            return -1;
        }
        return lineOf(k).end.get(level).texts[t - 1].length();
    }

    int find(int r, int k, int p, int w) {
        Line line = lineOf(k);
        if (r < 1 || r >= rules.size() || line == null || p < 0 || p > line.line.length() || w < 0 || w > 8) {
            return -1;
        }
        Found found = search(rules.get(r).pattern, line.line, p, new String[] {"", ""});
        if (w == 2) {
            return found.steps;
        }
        if (found.over) {
            return -4;
        }
        return w == 0 ? found.begin : w == 1 ? found.end : found.groups[w - 3];
    }
}
