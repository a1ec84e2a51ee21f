/** Counts answers that are not the ones that are due, and writes drafts. */
final class Check {
    private int wrong;
    private int made;

    void due(String call, long got, long want) {
        made++;
        if (got != want) {
            wrong++;
            System.out.println(call + " answered " + got + ", due is " + want);
        }
    }

    void due(String call, boolean got, boolean want) {
        due(call, got ? 1 : 0, want ? 1 : 0);
    }

    /** Replaces the draft. */
    static void draft(ScopeLines x, String text) {
        x.wipe();
        for (int i = 0; i < text.length(); i += 8) {
            if (!x.type(packed(text.substring(i, Math.min(text.length(), i + 8))))) {
                throw new IllegalStateException("the draft was refused: " + text);
            }
        }
    }

    /** The bytes of at most eight characters. */
    static long packed(String text) {
        long bytes = 0;
        for (int i = 0; i < text.length(); i++) {
            bytes = bytes << 8 | text.charAt(i);
        }
        return bytes;
    }

    static int piece(ScopeLines x, String pattern, int home, int scope) {
        draft(x, pattern);
        return x.piece(home, scope);
    }

    static int range(ScopeLines x, String patterns, int home, int scope) {
        draft(x, patterns);
        return x.range(home, scope);
    }

    static int put(ScopeLines x, String line, int k) {
        draft(x, line);
        return x.put(k);
    }

    /** The tokens of a line as "begin:last scope/number of scopes", with blanks between them. */
    static String tokensOf(ScopeLines x, int k) {
        StringBuilder all = new StringBuilder();
        for (int t = 0; t < x.tokens(k); t++) {
            all.append(t == 0 ? "" : " ").append(x.token(k, t, 0)).append(':')
                    .append(x.token(k, t, 2)).append('/').append(x.token(k, t, 1));
        }
        return all.toString();
    }

    void dueTokens(ScopeLines x, int k, String want) {
        made++;
        String got = tokensOf(x, k);
        if (!got.equals(want)) {
            wrong++;
            System.out.println("line " + k + " has the tokens " + got + ", due are " + want);
        }
    }

    void finish(String name) {
        System.out.println(name + ": " + made + " answers looked at, " + wrong + " wrong");
        if (wrong > 0) {
            System.exit(1);
        }
    }
}
