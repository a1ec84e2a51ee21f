import java.util.HashSet;
import java.util.Set;

/** Counts answers that are not the ones that are due, and writes drafts. */
final class Check {
    private static final int NONE = ScopeLines.NONE;

    private String words = "";
    private final Set<String> sentences = new HashSet<>();
    private int wrong;
    private int made;

    /** The words of the document that the next answers are about. */
    void sentence(String said) {
        words = said;
        sentences.add(said);
    }

    void due(String call, long got, long want) {
        due(call, Long.toString(got), Long.toString(want));
    }

    void due(String call, boolean got, boolean want) {
        due(call, Boolean.toString(got), Boolean.toString(want));
    }

    void due(String call, String got, String want) {
        made++;
        if (!got.equals(want)) {
            wrong++;
            System.out.println((words.isEmpty() ? "" : "'" + words + "': ")
                    + call + " answered " + got + ", due is " + want);
        }
    }

    /** Replaces the draft. */
    static void draft(ScopeLines x, String text) {
        x.wipe();
        for (int i = 0; i < text.length(); i += 8) {
            if (!x.type(packed(text.substring(i, Math.min(text.length(), i + 8))))) {
                throw new IllegalStateException("the draft was refused: " + text);
            }
        }
    }

    /** The bytes of at most eight characters. */
    static long packed(String text) {
        long bytes = 0;
        for (int i = 0; i < text.length(); i++) {
            bytes = bytes << 8 | text.charAt(i);
        }
        return bytes;
    }

    static int piece(ScopeLines x, String pattern, int home, int scope) {
        draft(x, pattern);
        return x.piece(home, scope);
    }

    static int range(ScopeLines x, String patterns, int home, int scope) {
        draft(x, patterns);
        return x.range(home, scope);
    }

    static int put(ScopeLines x, String line, int k) {
        draft(x, line);
        return x.put(k);
    }

    /** The tokens of a line as "begin:last scope/number of scopes", with blanks between them. */
    static String tokensOf(ScopeLines x, int k) {
        StringBuilder all = new StringBuilder();
        for (int t = 0; t < x.tokens(k); t++) {
            all.append(t == 0 ? "" : " ").append(x.token(k, t, 0)).append(':')
                    .append(x.token(k, t, 2)).append('/').append(x.token(k, t, 1));
        }
        return all.toString();
    }

    void dueTokens(ScopeLines x, int k, String want) {
        due("the tokens of line " + k, tokensOf(x, k), want);
    }

    /** The end state of a line as "range(length of text 1,length of text 2)", with blanks between. */
    static String stateOf(ScopeLines x, int k) {
        StringBuilder all = new StringBuilder();
        for (int level = 0; level < x.state(k, -1); level++) {
            all.append(level == 0 ? "" : " ").append(x.state(k, level))
                    .append('(').append(x.text(k, level, 1)).append(',').append(x.text(k, level, 2)).append(')');
        }
        return all.toString();
    }

    void dueState(ScopeLines x, int k, String want) {
        due("the end state of line " + k, stateOf(x, k), want);
    }

    /** The answers of find for w = 0, 1, and so on, as many as are due. */
    void dueFind(ScopeLines x, int r, int k, int p, int... want) {
        for (int w = 0; w < want.length; w++) {
            due("find(" + r + ", " + k + ", " + p + ", " + w + ")", x.find(r, k, p, w), want[w]);
        }
    }

    /** The same for a pattern that is the only rule and a line that is the only one. */
    void dueFind(String pattern, String line, int p, int... want) {
        ScopeLines x = new ScopeLines(300);
        due("piece " + pattern, piece(x, pattern, 0, 1), 1);
        put(x, line, 0);
        for (int w = 0; w < want.length; w++) {
            due(pattern + " in " + line + " from " + p + ", w = " + w, x.find(1, 0, p, w), want[w]);
        }
    }

    void dueNotFound(String pattern, String line, int steps) {
        dueFind(pattern, line, 0, NONE, NONE, steps, NONE, NONE, NONE, NONE, NONE, NONE);
    }

    void finish(String name) {
        String about = sentences.isEmpty() ? "" : sentences.size() + " sentences, ";
        System.out.println(name + ": " + about + made + " answers looked at, " + wrong + " wrong");
        if (wrong > 0) {
            System.exit(1);
        }
    }
}
