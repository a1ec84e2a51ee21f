/** Runs of calls, made by a fixed row of numbers, on the program and on the model side by side. */
public final class ModelTest {
    private static final int RUNS = 4000;
    private static final int CALLS = 512;
    private static final String[] ATOMS = {
        "a", "b", "a", "b", "x", ".", "^", "$", "[ab]", "[^a]", "[a-c-]", "[^b-x]", "\\a", "\\(", "]", "<"};
    private static final String[] QUANTIFIERS = {"*", "+", "?", "*?", "+?", "??"};
    private static final String[] STOCK = {
        "(a)(b?) x\\1\\2", "(a|b)(.) \\2\\1", "a b", "(.)(.) \\1$", "x $", "(b+) c\\1", "<(.)(.)? \\2\\1|\\(",
        "(a)?x \\1-", "a(()b?) (^|\\2)c", "b(.*)$ ^\\1", "(a+)(b+)?? x|\\2<", "[ab] 1", "^ $", ". .$"};
    private static final String NOISE = "ab()[]|*+?.^$\\12-x5]^-";
    private static final String LINE_CHARACTERS = "aaaabbbbxc<(]-1 ";

    private final Check check;
    private final int run;
    private final ScopeLines x;
    private final Model model;
    private final StringBuilder story = new StringBuilder();
    private long seed;
    private int calls;
    private boolean differs;

    private ModelTest(int run, Check check) {
        this.run = run;
        this.check = check;
        seed = run * 7919L + 13;
        int budget = pick(4) == 0 ? pick(40) : pick(400) - 20;
        x = new ScopeLines(budget);
        model = new Model(budget);
        story.append("new(").append(budget).append(')');
    }

    private int pick(int below) {
        seed = seed * 6364136223846793005L + 1442695040888963407L;
        return (int) ((seed >>> 33) % below);
    }

    private void same(String call, long got, long want) {
        calls++;
        story.append(' ').append(call);
        check.due("run " + run + " " + call, got, want);
        if (got != want && !differs) {
            differs = true;
            System.out.println(story);
        }
    }

    private void same(String call, boolean got, boolean want) {
        same(call, got ? 1 : 0, want ? 1 : 0);
    }

    private void draft(String text) {
        x.wipe();
        model.wipe();
        calls++;
        story.append(" \"").append(text).append('"');
        for (int i = 0; i < text.length(); i += 8) {
            long packed = Check.packed(text.substring(i, Math.min(text.length(), i + 8)));
            same("type", x.type(packed), model.type(packed));
        }
    }

    private String pattern(boolean inEnd) {
        if (pick(8) == 0) {
            StringBuilder noise = new StringBuilder();
            for (int n = pick(8); n >= 0; n--) {
                noise.append(NOISE.charAt(pick(NOISE.length())));
            }
            return noise.toString();
        }
        String made = branches(0, inEnd);
        return made.length() > 20 && pick(4) > 0 ? "a" : made;
    }

    private String branches(int depth, boolean inEnd) {
        StringBuilder all = new StringBuilder();
        for (int n = pick(5) / 3; n >= 0; n--) {
            for (int pieces = 1 + pick(3) - (pick(6) == 0 ? 1 : 0); pieces > 0; pieces--) {
                if (depth < 3 && pick(4) == 0) {
                    all.append('(').append(branches(depth + 1, inEnd)).append(')');
                } else if (inEnd && pick(3) == 0) {
                    all.append(pick(2) == 0 ? "\\1" : "\\2");
                    continue;
                } else {
                    all.append(ATOMS[pick(ATOMS.length)]);
                }
                all.append(pick(5) < 2 ? QUANTIFIERS[pick(QUANTIFIERS.length)] : "");
            }
            all.append(n > 0 ? "|" : "");
        }
        return all.toString();
    }

    private void makeRule() {
        int home = pick(3) > 0 ? rangeNumber() : pick(12) - 1;
        int scope = pick(12) == 0 ? pick(3) * 50 : 1 + pick(9);
        if (pick(2) == 0) {
            draft(pattern(false));
            same("piece(" + home + "," + scope + ")", x.piece(home, scope), model.piece(home, scope));
        } else {
            String both = pick(3) > 0 ? STOCK[pick(STOCK.length)]
                    : pattern(false) + (pick(20) == 0 ? "" : " ") + pattern(true);
            draft(both.length() > 40 ? "a b" : both);
            same("range(" + home + "," + scope + ")", x.range(home, scope), model.range(home, scope));
        }
    }

    private int rangeNumber() {
        int r = pick(Math.max(1, model.rules.size()));
        return model.isRange(r) ? r : 0;
    }

    private void putLine() {
        StringBuilder line = new StringBuilder();
        int length = pick(20) == 0 ? 23 + pick(4) : pick(3) == 0 ? pick(25) : pick(9);
        for (int n = 0; n < length; n++) {
            line.append(LINE_CHARACTERS.charAt(pick(LINE_CHARACTERS.length())));
        }
        draft(line.toString());
        int k = pick(2) == 0 ? model.lines() : pick(9) - 1;
        same("put(" + k + ")", x.put(k), model.put(k));
    }

    private void change() {
        int which = pick(12);
        if (which < 2) {
            makeRule();
        } else if (which < 7) {
            putLine();
        } else if (which == 7) {
            int k = pick(8) - 1;
            same("drop(" + k + ")", x.drop(k), model.drop(k));
        } else if (which < 10) {
            int r = pick(3) > 0 ? rangeNumber() : pick(11) - 1;
            int other = pick(3) > 0 ? rangeNumber() : pick(11) - 1;
            same("include(" + r + "," + other + ")", x.include(r, other), model.include(r, other));
        } else if (which == 10) {
            int scope = 1 + pick(9);
            int parent = pick(2) * (1 + pick(9));
            int colour = pick(260);
            same("theme(" + scope + "," + parent + "," + colour + ")",
                    x.theme(scope, parent, colour), model.theme(scope, parent, colour));
        } else {
            long text = pick(2) == 0 ? 0x6100000000000062L + pick(200) : (long) pick(1 << 30) << 34;
            same("type(" + text + ")", x.type(text), model.type(text));
        }
    }

    private void look() {
        int k = pick(8) == 0 ? pick(9) - 1 : pick(Math.max(1, model.lines()));
        int which = pick(10);
        if (which == 0) {
            same("lines", x.lines(), model.lines());
            same("passes", x.passes(), model.passes());
            same("length(" + k + ")", x.length(k), model.length(k));
        } else if (which < 3) {
            int level = pick(8) - 2;
            int t = pick(4);
            same("marked(" + k + ")", x.marked(k), model.marked(k));
            same("state(" + k + "," + level + ")", x.state(k, level), model.state(k, level));
            same("text(" + k + "," + level + "," + t + ")", x.text(k, level, t), model.text(k, level, t));
        } else if (which < 6) {
            int r = pick(8) == 0 ? pick(12) - 1 : 1 + pick(9);
            int p = pick(3) == 0 ? pick(28) - 1 : 0;
            int w = pick(11) - 1;
            same("find(" + r + "," + k + "," + p + "," + w + ")", x.find(r, k, p, w), model.find(r, k, p, w));
        } else {
            same("tokens(" + k + ")", x.tokens(k), model.tokens(k));
            int t = pick(6) == 0 ? pick(26) - 1 : pick(Math.max(1, model.tokens(k)));
            for (int w = pick(10) == 0 ? -1 : 0; w < 4; w++) {
                same("token(" + k + "," + t + "," + w + ")", x.token(k, t, w), model.token(k, t, w));
            }
        }
    }

    private void go() {
        for (int n = 3 + pick(8); n > 0; n--) {
            makeRule();
        }
        while (calls < CALLS - 12 && !differs) {
            if (pick(4) == 0) {
                change();
            } else {
                look();
            }
        }
    }

    public static void main(String[] args) {
        Check check = new Check();
        int marked = 0, deep = 0, withText = 0;
        for (int run = 0; run < RUNS; run++) {
            ModelTest test = new ModelTest(run, check);
            test.go();
            for (Model.Line line : test.model.document) {
                marked += line.marked ? 1 : 0;
                deep += line.end.size() > 2 ? 1 : 0;
                withText += line.end.stream().anyMatch(o -> !o.texts[0].isEmpty()) ? 1 : 0;
            }
        }
        // Runs that never come to these would compare little.
        check.due("lines that are marked", marked > RUNS / 10, true);
        check.due("lines in deep states", deep > RUNS / 10, true);
        check.due("lines with texts", withText > RUNS / 10, true);
        System.out.println(marked + " marked, " + deep + " deep, " + withText + " with texts");
        check.finish("ModelTest");
    }
}
