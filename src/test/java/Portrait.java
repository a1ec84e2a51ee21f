import java.util.function.Supplier;

/**
 * All that calls can tell of an object, as a text. Some questions change what they ask about (what the
 * draft is, how many rules there can still be), so each part asks a new object that went the same way.
 */
final class Portrait {
    private static final int MOST_LINES = 6;
    private static final int MOST_RULES = 9;

    private final Supplier<ScopeLines> way;
    private final StringBuilder told = new StringBuilder();

    private Portrait(Supplier<ScopeLines> way) {
        this.way = way;
    }

    static String of(Supplier<ScopeLines> way) {
        Portrait portrait = new Portrait(way);
        portrait.tellDocument("document", way.get());
        portrait.tellSearches();
        portrait.tellDraft();
        portrait.tellRoom();
        portrait.tellIncluded();
        return portrait.told.toString();
    }

    private void tell(String what, long answer) {
        told.append(what).append(' ').append(answer).append('\n');
    }

    private void tell(String what, String answer) {
        told.append(what).append(' ').append(answer).append('\n');
    }

    private void tellDocument(String title, ScopeLines x) {
        tell(title + ": lines", x.lines());
        tell(title + ": passes", x.passes());
        for (int k = 0; k < MOST_LINES; k++) {
            tell(title + ": length", x.length(k));
            tell(title + ": marked", x.marked(k) ? 1 : 0);
            tell(title + ": tokens", Check.tokensOf(x, k));
            tell(title + ": state", Check.stateOf(x, k));
            for (int t = 0; t < x.tokens(k); t++) {
                tell(title + ": colour", x.token(k, t, 3));
            }
        }
    }

    private void tellSearches() {
        for (int r = 1; r <= MOST_RULES; r++) {
            ScopeLines x = way.get();
            for (int k = 0; k < x.lines(); k++) {
                for (int w = 0; w <= 8; w++) {
                    tell("find rule " + r + " in line " + k, x.find(r, k, 0, w));
                }
                tell("find behind", x.find(r, k, x.length(k), 2));
            }
        }
    }

    private void tellDraft() {
        ScopeLines x = way.get();
        int room = 0;
        while (room < 41 && x.type('a')) {
            room++;
        }
        tell("room in the draft", room);
        x = way.get();
        tell("the draft as line 0", x.put(0));
        tellDocument("draft as line 0", x);
        x = way.get();
        tell("the draft as the last line", x.put(x.lines()));
        tellDocument("draft as the last line", x);
        x = way.get();
        tell("the draft as a PIECE", x.piece(0, 77));
        tellDocument("draft as a PIECE", x);
        x = way.get();
        tell("the draft as a RANGE", x.range(0, 78));
        tellDocument("draft as a RANGE", x);
    }

    private void tellRoom() {
        ScopeLines x = way.get();
        for (int n = 0; n <= MOST_RULES; n++) {
            tell("one rule more", Check.piece(x, "~", 0, 1));
        }
        x = way.get();
        for (int n = 0; n <= MOST_LINES; n++) {
            tell("one line more", Check.put(x, "~", x.lines()));
        }
        x = way.get();
        for (int n = 0; n <= 6; n++) {
            tell("one entry more", x.theme(98, 0, 1) ? 1 : 0);
        }
    }

    private void tellIncluded() {
        for (int r = 0; r <= MOST_RULES; r++) {
            for (int other = 0; other <= MOST_RULES; other++) {
                tell("include(" + r + ", " + other + ")", way.get().include(r, other) ? 1 : 0);
            }
        }
    }
}
