import java.util.HashMap;
import java.util.Map;
import java.util.function.Function;
import java.util.function.Supplier;

/**
 * The sentences of the promises that name an edge of a call or a refusal: the last input that is taken,
 * the first one that is refused, that a refused call changes nothing, and which refusal comes first.
 */
public final class CallEdgesTest {
    private static final int NONE = ScopeLines.NONE;
    private static final int ILL = ScopeLines.ILL;
    private static final int FULL = ScopeLines.FULL;
    private static final int OVER = ScopeLines.OVER;
    private static final int LEAST = Integer.MIN_VALUE;
    private static final int MOST = Integer.MAX_VALUE;
    private static final String B24 = "b".repeat(24);

    private static final Check CHECK = new Check();
    private static final Map<Supplier<ScopeLines>, String> PORTRAITS = new HashMap<>();

    /** Ways to objects; refused calls are made on them and must leave no trace. */
    private static final Supplier<ScopeLines> NEW = () -> new ScopeLines(20);
    private static final Supplier<ScopeLines> SOME = () -> some("a+b");
    private static final Supplier<ScopeLines> SOME_RANGE = () -> some("(x)y z\\1");
    private static final Supplier<ScopeLines> SOME_ILL = () -> some("x(");
    private static final Supplier<ScopeLines> SOME_24 = () -> some(B24);
    private static final Supplier<ScopeLines> SOME_25 = () -> some(B24 + "b");
    private static final Supplier<ScopeLines> SOME_39 = () -> some(B24 + "b".repeat(15));
    private static final Supplier<ScopeLines> SOME_40 = () -> some(B24 + "b".repeat(16));
    private static final Supplier<ScopeLines> ALL = () -> all("a+b");
    private static final Supplier<ScopeLines> ALL_RANGE = () -> all("(x)y z\\1");
    private static final Supplier<ScopeLines> ALL_ILL = () -> all("x(");
    private static final Supplier<ScopeLines> ALL_24 = () -> all(B24);
    private static final Supplier<ScopeLines> ALL_25 = () -> all(B24 + "b");

    /** Four rules (1 and 3 are ranges), three entries and four lines, the last of which is MARKED. */
    private static ScopeLines some(String draft) {
        ScopeLines x = new ScopeLines(20);
        Check.range(x, "<(a*)(b)? \\1>", 0, 11);
        Check.piece(x, "b+", 1, 12);
        Check.range(x, "{ }", 1, 13);
        Check.piece(x, "x", 0, 14);
        x.include(1, 0);
        x.include(3, 3);
        x.theme(12, 0, 5);
        x.theme(12, 11, 6);
        x.theme(14, 13, 7);
        Check.put(x, "x<aab{x", 0);
        Check.put(x, "}bb", 1);
        Check.put(x, "aa>x<b", 2);
        Check.put(x, "a".repeat(24), 3);
        Check.draft(x, draft);
        return x;
    }

    /** Nine rules, six entries and six lines. */
    private static ScopeLines all(String draft) {
        ScopeLines x = some("");
        for (int r = 5; r <= 9; r++) {
            Check.piece(x, "c", 3, r);
        }
        x.theme(1, 0, 1);
        x.theme(1, 0, 1);
        x.theme(5, 0, 255);
        Check.put(x, "{c", 4);
        Check.put(x, "<{c", 5);
        Check.draft(x, draft);
        return x;
    }

    /** The call answers what is due, and all that can be told of the object stays as it was. */
    private static void dueSame(String call, Supplier<ScopeLines> way, Function<ScopeLines, Object> asked,
            Object want) {
        CHECK.due(call, String.valueOf(asked.apply(way.get())), String.valueOf(want));
        String before = PORTRAITS.computeIfAbsent(way, Portrait::of);
        String after = Portrait.of(() -> {
            ScopeLines x = way.get();
            asked.apply(x);
            return x;
        });
        CHECK.due("what changed by " + call, firstChange(before, after), "nothing");
    }

    private static String firstChange(String before, String after) {
        String[] old = before.split("\n");
        String[] now = after.split("\n");
        for (int i = 0; i < Math.min(old.length, now.length); i++) {
            if (!old[i].equals(now[i])) {
                return old[i] + " became " + now[i];
            }
        }
        return old.length == now.length ? "nothing" : "the number of answers";
    }

    /** A search of 301 STEPS tells BUDGET. */
    private static int budgetOf(int given) {
        ScopeLines x = new ScopeLines(given);
        Check.piece(x, "(||||||||||)d|ef", 0, 1);
        Check.put(x, "e" + "a".repeat(23), 0);
        CHECK.due("OVER with " + given, x.find(1, 0, 0, 0), OVER);
        return x.find(1, 0, 0, 2);
    }

    private static void newObject() {
        CHECK.sentence("BUDGET is budget, but 10 if that is less and 300 if that is more");
        int[] given = {LEAST, -300, -1, 0, 1, 9, 10, 11, 12, 150, 298, 299, 300, 301, 1000, MOST};
        int[] due = {10, 10, 10, 10, 10, 10, 10, 11, 12, 150, 298, 299, 300, 300, 300, 300};
        for (int i = 0; i < given.length; i++) {
            CHECK.due("budget " + given[i], budgetOf(given[i]), due[i]);
        }
        CHECK.sentence("No rules, no lines, an empty draft and an empty theme");
        ScopeLines x = new ScopeLines(100);
        CHECK.due("lines", x.lines(), 0);
        CHECK.due("passes", x.passes(), 0);
        CHECK.due("an empty draft is no pattern", x.piece(0, 1), ILL);
        CHECK.due("nor a range", x.range(0, 1), ILL);
        CHECK.due("but a line", x.put(0), 1);
        CHECK.due("of no characters", x.length(0), 0);
        for (int r = 0; r <= 10; r++) {
            CHECK.due("no rule " + r, x.find(r, 0, 0, 2), NONE);
            CHECK.due("a range is 0 alone", x.piece(r, 1), r == 0 ? ILL : NONE);
        }
        for (int r = 1; r <= 9; r++) {
            CHECK.due("nine rules", Check.piece(x, "a", 0, 1), r);
        }
        for (int k = 1; k < 6; k++) {
            CHECK.due("six lines", Check.put(x, "a", k), 1);
        }
        CHECK.due("no colour", x.token(1, 0, 3), 0);
        for (int n = 0; n < 6; n++) {
            CHECK.due("six entries", x.theme(2, 0, 1), true);
        }
        x = new ScopeLines(100);
        for (int n = 0; n < 40; n++) {
            CHECK.due("forty characters", x.type('a'), true);
        }
        CHECK.due("and no more", x.type('a'), false);
    }

    private static void typeOrder() {
        CHECK.sentence("the highest first (bytes that are 0 are passed over)");
        for (int mask = 0; mask < 256; mask++) {
            long text = 0;
            StringBuilder due = new StringBuilder("^");
            for (int i = 0; i < 8; i++) {
                boolean is = (mask >> i & 1) != 0;
                text = text << 8 | (is ? 'a' + i : 0);
                due.append(is ? String.valueOf((char) ('a' + i)) : "");
            }
            ScopeLines x = new ScopeLines(100);
            CHECK.due("type " + text, x.type(text), true);
            x.put(0);
            CHECK.due("characters of " + text, x.length(0), Integer.bitCount(mask));
            CHECK.due("a pattern", Check.piece(x, due + "$", 0, 1), 1);
            CHECK.due("their order in " + text, x.find(1, 0, 0, 0), 0);
        }
        CHECK.sentence("adds to the draft");
        ScopeLines x = new ScopeLines(100);
        x.type(Check.packed("ab"));
        x.type(Check.packed("c"));
        x.type(0L);
        x.type(Check.packed("de"));
        x.put(0);
        Check.piece(x, "^abcde$", 0, 1);
        CHECK.due("abcde", x.find(1, 0, 0, 0), 0);
    }

    private static void typeRefusals() {
        CHECK.sentence("false if another byte is not 32 .. 126");
        for (int shift = 0; shift < 64; shift += 8) {
            for (int c = 0; c < 256; c++) {
                boolean good = c == 0 || c >= 32 && c <= 126;
                long others = 0x6161616161616161L & ~(255L << shift);
                CHECK.due("byte " + c + " alone", new ScopeLines(100).type((long) c << shift), good);
                CHECK.due("byte " + c, new ScopeLines(100).type(others | (long) c << shift), good);
            }
        }
        for (int c : new int[] {1, 31, 127, 128, 255}) {
            for (int shift = 0; shift < 64; shift += 8) {
                long text = 0x6161616161616161L & ~(255L << shift) | (long) c << shift;
                dueSame("type of byte " + c, SOME, x -> x.type(text), false);
            }
            dueSame("type of byte " + c, NEW, x -> x.type(0x6100L | c), false);
            dueSame("type of byte " + c, SOME_40, x -> x.type(c), false);
        }
        CHECK.sentence("or there would be more than 40");
        for (int n = 0; n <= 40; n++) {
            for (int m = 0; m <= 8; m++) {
                ScopeLines x = new ScopeLines(100);
                Check.draft(x, "a".repeat(n));
                CHECK.due(n + " and " + m, x.type(Check.packed("b".repeat(m))), n + m <= 40);
            }
        }
        dueSame("the 41st", SOME_40, x -> x.type('a'), false);
        dueSame("none more", SOME_40, x -> x.type(0L), true);
        dueSame("41 and 42", SOME_40, x -> x.type(0x6100000000000061L), false);
        dueSame("the 40th and 41st", SOME_39, x -> x.type(Check.packed("aa")), false);
        dueSame("40 .. 47", SOME_39, x -> x.type(Check.packed("aaaaaaaa")), false);
        ScopeLines x = SOME_39.get();
        CHECK.due("too many", x.type(Check.packed("aa")), false);
        CHECK.due("the 40th", x.type('a'), true);
        CHECK.due("the 41st", x.type('a'), false);
    }

    private static void wipes() {
        CHECK.sentence("The draft becomes empty");
        ScopeLines x = new ScopeLines(100);
        for (int n = 0; n < 3; n++) {
            Check.draft(x, "a".repeat(40));
            CHECK.due("a full draft", x.type('a'), false);
            x.wipe();
        }
        CHECK.due("an empty line", x.put(0), 1);
        CHECK.due("of no characters", x.length(0), 0);
        x.wipe();
        x.wipe();
        CHECK.due("no pattern", x.piece(0, 1), ILL);
        Supplier<ScopeLines> without = () -> some("");
        for (String draft : new String[] {"", "a", "x(", B24, "a".repeat(40)}) {
            String wiped = Portrait.of(() -> {
                ScopeLines y = some(draft);
                y.wipe();
                return y;
            });
            CHECK.due("only the draft is gone", firstChange(Portrait.of(without), wiped), "nothing");
        }
    }

    private static int make(ScopeLines x, boolean range, int home, int scope) {
        return range ? x.range(home, scope) : x.piece(home, scope);
    }

    /** What promises 4 and 5 say in the same words. */
    private static void rules(boolean range) {
        String good = range ? "(x)y z\\1" : "a+b";
        Supplier<ScopeLines> someGood = range ? SOME_RANGE : SOME;
        Supplier<ScopeLines> someIll = range ? SOME : SOME_RANGE;
        Supplier<ScopeLines> allGood = range ? ALL_RANGE : ALL;
        Supplier<ScopeLines> allIll = range ? ALL : ALL_RANGE;
        CHECK.sentence((range ? "range" : "piece") + ": NONE if home is no range");
        for (int home : new int[] {LEAST, -2, -1, 2, 4, 5, 6, 9, 10, 11, MOST}) {
            dueSame("home " + home, someGood, x -> make(x, range, home, 1), NONE);
        }
        for (int home : new int[] {-1, 1, 2, 9, 10}) {
            dueSame("home " + home + " of a new one", NEW, x -> make(x, range, home, 1), NONE);
        }
        for (int home : new int[] {0, 1, 3}) {
            CHECK.due("home " + home, make(some(good), range, home, 1), 5);
        }
        CHECK.sentence((range ? "range" : "piece") + ": NONE if scope is not 1 .. 99");
        for (int scope : new int[] {LEAST, -99, -1, 0, 100, 101, MOST}) {
            dueSame("scope " + scope, someGood, x -> make(x, range, 0, scope), NONE);
        }
        for (int scope : new int[] {1, 2, 98, 99}) {
            CHECK.due("scope " + scope, make(some(good), range, 0, scope), 5);
        }
        CHECK.sentence((range ? "range" : "piece") + ": ILL if the draft is not what is needed");
        dueSame("an empty draft", NEW, x -> make(x, range, 0, 1), ILL);
        dueSame("x(", SOME_ILL, x -> make(x, range, 0, 1), ILL);
        dueSame("the other kind", someIll, x -> make(x, range, 1, 99), ILL);
        dueSame("24 characters", SOME_24, x -> make(x, range, 0, 1), ILL);
        dueSame("40 characters", SOME_40, x -> make(x, range, 3, 1), ILL);
        CHECK.sentence((range ? "range" : "piece") + ": FULL if there are nine rules");
        dueSame("the tenth", allGood, x -> make(x, range, 0, 1), FULL);
        dueSame("the tenth", allGood, x -> make(x, range, 3, 99), FULL);
        ScopeLines nine = new ScopeLines(100);
        for (int r = 1; r <= 10; r++) {
            Check.draft(nine, good);
            CHECK.due("rule " + r, make(nine, range, 0, 1), r <= 9 ? r : FULL);
        }
        CHECK.sentence((range ? "range" : "piece") + ": if several would do, the one that stands first");
        dueSame("NONE and ILL", SOME_ILL, x -> make(x, range, 2, 1), NONE);
        dueSame("NONE and ILL", SOME_ILL, x -> make(x, range, 0, 0), NONE);
        dueSame("NONE and ILL, FULL", ALL_ILL, x -> make(x, range, 5, 1), NONE);
        dueSame("NONE and ILL, FULL", ALL_ILL, x -> make(x, range, 0, 100), NONE);
        dueSame("NONE and FULL", allGood, x -> make(x, range, 10, 1), NONE);
        dueSame("NONE and FULL", allGood, x -> make(x, range, 0, 0), NONE);
        dueSame("ILL and FULL", ALL_ILL, x -> make(x, range, 0, 1), ILL);
        dueSame("ILL and FULL", allIll, x -> make(x, range, 0, 1), ILL);
        CHECK.sentence((range ? "range" : "piece") + ": The draft is empty behind a number (it stays otherwise)");
        ScopeLines x = some(good);
        CHECK.due("home 2", make(x, range, 2, 1), NONE);
        CHECK.due("scope 0", make(x, range, 0, 0), NONE);
        CHECK.due("number", make(x, range, 0, 1), 5);
        CHECK.due("the draft is empty", make(x, range, 0, 1), ILL);
        CHECK.due("a line of it", x.put(0) > 0, true);
        CHECK.due("has no characters", x.length(0), 0);
    }

    private static void rangeDrafts() {
        CHECK.sentence("the draft is its BEGIN, a blank, and its END, both patterns");
        String[] ill = {"", " ", "  ", "a", "a ", " a", "a  b", " a b", "a b ", "a b c", "( b", "a (", "a( b)", "[ ]",
            "a\\ b", "\\1 b", "a \\3", "(a)\\1 b"};
        for (String draft : ill) {
            Supplier<ScopeLines> way = () -> some(draft);
            dueSame("range " + draft, way, x -> x.range(0, 1), ILL);
        }
        String[] good = {"a b", "| |", "a \\1", "a \\2", "(a) \\1", "a [(]", "\\( \\)"};
        for (String draft : good) {
            CHECK.due("range " + draft, some(draft).range(0, 1), 5);
        }
        CHECK.sentence("NONE if home is no range: the new one is a range from now on, a new PIECE is not");
        ScopeLines x = new ScopeLines(100);
        Check.draft(x, "a");
        CHECK.due("home 1", x.piece(1, 1), NONE);
        CHECK.due("rule 1", Check.range(x, "< >", 0, 1), 1);
        CHECK.due("in rule 1", Check.piece(x, "a", 1, 1), 2);
        Check.draft(x, "a b");
        CHECK.due("in rule 2", x.range(2, 1), NONE);
        CHECK.due("in rule 3", x.range(3, 1), NONE);
        CHECK.due("in rule 1", x.range(1, 1), 3);
        CHECK.due("in rule 3", Check.range(x, "a b", 3, 1), 4);
    }

    private static void illDraftsLeaveNothing() {
        CHECK.sentence("A call that answers one of the constants changes nothing: what an ILL draft was leaves no trace");
        ScopeLines x = new ScopeLines(300);
        Check.put(x, "xabab", 0);
        String[] ill = {"[a][b][c](", "[a][b][c](", "[a][b][c](", "(a|", "((|", "(((a", "(a)(b)(c)(", "a|b|(", "[!-~]*+",
            "(|)(", "a b", "[^!-~]["};
        for (String draft : ill) {
            CHECK.due("piece " + draft, Check.piece(x, draft, 0, 1), ILL);
            CHECK.due("range " + draft, Check.range(x, draft + " " + draft, 0, 1), ILL);
            CHECK.due("range a " + draft, Check.range(x, "a " + draft, 0, 1), ILL);
        }
        CHECK.due("piece", Check.piece(x, "([a])([b])", 0, 1), 1);
        CHECK.dueFind(x, 1, 0, 0, 1, 3, 3, 1, 2, 2, 3, NONE, NONE);
        CHECK.due("piece", Check.piece(x, "(a|b)+(b)*", 0, 1), 2);
        CHECK.dueFind(x, 2, 0, 0, 1, 5, 11, 4, 5, NONE, NONE, NONE, NONE);
        for (String draft : ill) {
            Check.range(x, "c " + draft, 0, 1);
        }
        CHECK.due("range", Check.range(x, "b [b]+", 0, 1), 3);
        CHECK.dueFind(x, 3, 0, 0, 2, 3, 3, NONE);
    }

    private static void includes() {
        CHECK.sentence("include: false if one of them is no range");
        for (int wrong : new int[] {LEAST, -1, 2, 4, 5, 9, 10, 11, MOST}) {
            dueSame("include(" + wrong + ", 0)", SOME, x -> x.include(wrong, 0), false);
            for (int r : new int[] {0, 1, 3}) {
                dueSame("include(" + r + ", " + wrong + ")", SOME, x -> x.include(r, wrong), false);
            }
            dueSame("include(" + wrong + ", itself)", SOME, x -> x.include(wrong, wrong), false);
        }
        dueSame("include(1, 0)", NEW, x -> x.include(1, 0), false);
        dueSame("include(0, 1)", NEW, x -> x.include(0, 1), false);
        CHECK.sentence("include: false if it includes it already");
        dueSame("include(1, 0)", SOME, x -> x.include(1, 0), false);
        dueSame("include(3, 3)", SOME, x -> x.include(3, 3), false);
        CHECK.sentence("0, the OUTER one, may be r and other; it may be r itself");
        int[][] good = {{0, 0}, {0, 1}, {0, 3}, {1, 1}, {1, 3}, {3, 0}, {3, 1}};
        for (int[] pair : good) {
            ScopeLines x = some("");
            int passes = x.passes();
            CHECK.due("include(" + pair[0] + ", " + pair[1] + ")", x.include(pair[0], pair[1]), true);
            CHECK.due("all lines are tokenized", x.passes(), passes + 4);
            CHECK.due("again", x.include(pair[0], pair[1]), false);
            CHECK.due("none is", x.passes(), passes + 4);
        }
        CHECK.due("a new one's", new ScopeLines(10).include(0, 0), true);
        CHECK.sentence("Range r includes range other from now on (and no other one)");
        ScopeLines x = some("");
        CHECK.due("include(1, 3)", x.include(1, 3), true);
        CHECK.due("not 0 any more, so it can be again", x.include(1, 0), true);
        CHECK.due("not 3 any more, so it can be again", x.include(1, 3), true);
        CHECK.due("include(3, 3) stays", x.include(3, 3), false);
        CHECK.sentence("include leaves the draft");
        x = some("abc");
        x.include(0, 1);
        x.put(0);
        CHECK.due("abc", x.length(0), 3);
    }

    private static void themes() {
        int[] low = {LEAST, -1};
        int[] high = {100, 101, MOST};
        CHECK.sentence("theme: false if scope is not 1 .. 99");
        for (int scope : new int[] {LEAST, -1, 0, 100, 101, MOST}) {
            dueSame("scope " + scope, SOME, x -> x.theme(scope, 0, 1), false);
        }
        CHECK.due("scope 1", NEW.get().theme(1, 0, 1), true);
        CHECK.due("scope 99", NEW.get().theme(99, 0, 1), true);
        CHECK.sentence("theme: parent not 0 .. 99");
        for (int parent : low) {
            dueSame("parent " + parent, SOME, x -> x.theme(1, parent, 1), false);
        }
        for (int parent : high) {
            dueSame("parent " + parent, SOME, x -> x.theme(1, parent, 1), false);
        }
        CHECK.due("parent 0", NEW.get().theme(1, 0, 1), true);
        CHECK.due("parent 1", NEW.get().theme(1, 1, 1), true);
        CHECK.due("parent 99", NEW.get().theme(1, 99, 1), true);
        CHECK.sentence("theme: colour not 1 .. 255");
        for (int colour : new int[] {LEAST, -1, 0, 256, 257, MOST}) {
            dueSame("colour " + colour, SOME, x -> x.theme(1, 0, colour), false);
        }
        for (int colour : new int[] {1, 2, 254, 255}) {
            ScopeLines x = some("");
            CHECK.due("colour " + colour, x.theme(14, 0, colour), true);
            CHECK.due("it is seen", x.token(0, 0, 3), colour);
        }
        CHECK.sentence("theme: or there are six");
        dueSame("a seventh", ALL, x -> x.theme(14, 0, 9), false);
        dueSame("a seventh, the same", ALL, x -> x.theme(12, 0, 5), false);
        dueSame("a seventh, wrong", ALL, x -> x.theme(0, 0, 0), false);
        ScopeLines x = NEW.get();
        for (int n = 1; n <= 7; n++) {
            CHECK.due("entry " + n, x.theme(n, 0, n), n <= 6);
        }
        CHECK.sentence("The theme gets an entry, and nothing else changes");
        x = some("abc");
        int passes = x.passes();
        CHECK.due("theme", x.theme(14, 0, 9), true);
        CHECK.due("passes", x.passes(), passes);
        CHECK.due("colour", x.token(0, 0, 3), 9);
        x.put(0);
        CHECK.due("the draft", x.length(0), 3);
    }

    private static void puts() {
        CHECK.sentence("put: NONE if k is not 0 .. that number");
        for (int k : new int[] {LEAST, -1, 5, 6, 7, MOST}) {
            dueSame("put(" + k + ")", SOME, x -> x.put(k), NONE);
        }
        for (int k : new int[] {-1, 1, 6}) {
            dueSame("put(" + k + ") in a new one", NEW, x -> x.put(k), NONE);
        }
        for (int k = 0; k <= 4; k++) {
            ScopeLines x = SOME.get();
            CHECK.due("put(" + k + ")", x.put(k) >= 1, true);
            CHECK.due("lines", x.lines(), k == 4 ? 5 : 4);
            CHECK.due("length", x.length(k), 3);
            for (int other = 0; other < 4; other++) {
                CHECK.due("length of " + other, x.length(other), other == k ? 3 : SOME.get().length(other));
            }
        }
        CHECK.sentence("put: ILL if the draft has more than 24 characters");
        for (int k = 0; k <= 4; k++) {
            int line = k;
            dueSame("25 characters", SOME_25, x -> x.put(line), ILL);
            dueSame("40 characters", SOME_40, x -> x.put(line), ILL);
            ScopeLines x = SOME_24.get();
            CHECK.due("24 characters", x.put(k) >= 1, true);
            CHECK.due("length", x.length(k), 24);
        }
        CHECK.due("no characters", some("").put(4), 1);
        CHECK.sentence("put: FULL if there would be more than 6 lines");
        dueSame("a seventh", ALL, x -> x.put(6), FULL);
        dueSame("a seventh of 24", ALL_24, x -> x.put(6), FULL);
        dueSame("a seventh of none", () -> all(""), x -> x.put(6), FULL);
        for (int k = 0; k <= 5; k++) {
            ScopeLines x = ALL.get();
            CHECK.due("put(" + k + ")", x.put(k) >= 1, true);
            CHECK.due("six lines", x.lines(), 6);
        }
        CHECK.sentence("put: if several would do, the one that stands first");
        dueSame("NONE and ILL", SOME_25, x -> x.put(5), NONE);
        dueSame("NONE and ILL", SOME_25, x -> x.put(-1), NONE);
        dueSame("NONE and ILL, FULL", ALL_25, x -> x.put(7), NONE);
        dueSame("ILL and FULL", ALL_25, x -> x.put(6), ILL);
        CHECK.sentence("Line k becomes the draft, which is empty then (it stays with a refusal)");
        ScopeLines x = SOME.get();
        CHECK.due("put(5)", x.put(5), NONE);
        CHECK.due("put(4)", x.put(4), 1);
        CHECK.due("a+b", x.length(4), 3);
        CHECK.due("put(5)", x.put(5), 1);
        CHECK.due("nothing", x.length(5), 0);
        CHECK.sentence("How many lines were tokenized by that");
        x = some("");
        int passes = x.passes();
        CHECK.due("put(0) of no range", x.put(0), 3);
        CHECK.due("passes", x.passes(), passes + 3);
    }

    private static void drops() {
        CHECK.sentence("drop: NONE if there is none such");
        for (int k : new int[] {LEAST, -1, 4, 5, 6, MOST}) {
            dueSame("drop(" + k + ")", SOME, x -> x.drop(k), NONE);
        }
        for (int k : new int[] {-1, 6, 7}) {
            dueSame("drop(" + k + ")", ALL, x -> x.drop(k), NONE);
        }
        dueSame("drop(0) of a new one", NEW, x -> x.drop(0), NONE);
        CHECK.sentence("Line k is taken out");
        int[] lengths = {7, 3, 6, 24};
        for (int k = 0; k < 4; k++) {
            ScopeLines x = SOME.get();
            CHECK.due("drop(" + k + ")", x.drop(k) >= 0, true);
            CHECK.due("three are left", x.lines(), 3);
            for (int i = 0; i < 3; i++) {
                CHECK.due("length of " + i, x.length(i), lengths[i < k ? i : i + 1]);
            }
            CHECK.due("no fourth", x.length(3), NONE);
            CHECK.due("the draft stays", x.put(3), 1);
            CHECK.due("it is a+b", x.length(3), 3);
            for (int i = 0; i < 3; i++) {
                CHECK.due("length of " + i + " still", x.length(i), lengths[i < k ? i : i + 1]);
            }
        }
        ScopeLines x = ALL.get();
        for (int left = 5; left >= 0; left--) {
            CHECK.due("the last line", x.drop(left), 0);
            CHECK.due("lines", x.lines(), left);
        }
        CHECK.due("none", x.drop(0), NONE);
        CHECK.due("a line again", x.put(0), 1);
    }

    private static void counts() {
        CHECK.sentence("How many lines there are");
        ScopeLines x = new ScopeLines(10);
        for (int n = 0; n < 6; n++) {
            CHECK.due("lines", x.lines(), n);
            CHECK.due("passes", x.passes(), n);
            x.put(n);
        }
        CHECK.due("lines", x.lines(), 6);
        x.put(6);
        CHECK.due("lines", x.lines(), 6);
        CHECK.due("passes", x.passes(), 6);
        for (int k : new int[] {LEAST, -1, 4, 5, 6, MOST}) {
            CHECK.sentence("length, tokens: NONE if there is none; marked: no such line is");
            dueSame("length(" + k + ")", SOME, y -> y.length(k), NONE);
            dueSame("tokens(" + k + ")", SOME, y -> y.tokens(k), NONE);
            dueSame("marked(" + k + ")", SOME, y -> y.marked(k), false);
            CHECK.sentence("token, state, text, find: NONE if there is no such line");
            dueSame("token(" + k + ")", SOME, y -> y.token(k, 0, 0), NONE);
            dueSame("state(" + k + ", -1)", SOME, y -> y.state(k, -1), NONE);
            dueSame("state(" + k + ", 0)", SOME, y -> y.state(k, 0), NONE);
            dueSame("text(" + k + ", 0, 1)", SOME, y -> y.text(k, 0, 1), NONE);
            dueSame("find(1, " + k + ", 0, 2)", SOME, y -> y.find(1, k, 0, 2), NONE);
        }
        for (int k : new int[] {-1, 6, 7}) {
            dueSame("length(" + k + ")", ALL, y -> y.length(k), NONE);
            dueSame("tokens(" + k + ")", ALL, y -> y.tokens(k), NONE);
            dueSame("marked(" + k + ")", ALL, y -> y.marked(k), false);
            dueSame("state(" + k + ", -1)", ALL, y -> y.state(k, -1), NONE);
        }
        int[] lengths = {7, 3, 6, 24};
        int[] tokens = {4, 2, 3, 1};
        for (int k = 0; k < 4; k++) {
            int line = k;
            CHECK.sentence("length, tokens, marked: of each line that is there");
            dueSame("length(" + k + ")", SOME, y -> y.length(line), lengths[k]);
            dueSame("tokens(" + k + ")", SOME, y -> y.tokens(line), tokens[k]);
            dueSame("marked(" + k + ")", SOME, y -> y.marked(line), k == 3);
        }
        x = SOME.get();
        x.drop(3);
        CHECK.due("length of a dropped line", x.length(3), NONE);
        CHECK.due("tokens of a dropped line", x.tokens(3), NONE);
        CHECK.due("marked of a dropped line", x.marked(3), false);
        CHECK.due("state of a dropped line", x.state(3, -1), NONE);
        CHECK.due("token of a dropped line", x.token(3, 0, 0), NONE);
        CHECK.due("text of a dropped line", x.text(3, 0, 1), NONE);
        CHECK.due("find in a dropped line", x.find(1, 3, 0, 2), NONE);
    }

    private static void tokens() {
        CHECK.sentence("token: NONE if there is no such token");
        for (int t : new int[] {LEAST, -1, 4, 5, 23, 24, MOST}) {
            for (int w = 0; w < 4; w++) {
                int asked = w;
                dueSame("token(0, " + t + ", " + w + ")", SOME, x -> x.token(0, t, asked), NONE);
            }
        }
        dueSame("token(3, 1, 0)", SOME, x -> x.token(3, 1, 0), NONE);
        CHECK.sentence("token: NONE if w is another number");
        for (int w : new int[] {LEAST, -1, 4, 5, MOST}) {
            dueSame("token(0, 0, " + w + ")", SOME, x -> x.token(0, 0, w), NONE);
        }
        CHECK.sentence("w = 0: where it begins, 1: how many SCOPES, 2: the last (0 if none), 3: its COLOUR");
        int[][] due = {{0, 1, 14, 0}, {1, 1, 11, 0}, {5, 2, 13, 0}, {6, 2, 13, 0}};
        for (int t = 0; t < due.length; t++) {
            for (int w = 0; w < 4; w++) {
                CHECK.due("token(0, " + t + ", " + w + ")", SOME.get().token(0, t, w), due[t][w]);
            }
        }
        ScopeLines x = SOME.get();
        Check.put(x, "a", 0);
        int[] noScopes = {0, 0, 0, 0};
        for (int w = 0; w < 4; w++) {
            CHECK.due("a token without scopes, w = " + w, x.token(0, 0, w), noScopes[w]);
        }
        x = new ScopeLines(300);
        Check.piece(x, "a", 0, 1);
        Check.put(x, "a".repeat(24), 0);
        CHECK.due("token 23", x.token(0, 23, 0), 23);
        CHECK.due("token 24", x.token(0, 24, 0), NONE);
    }

    private static ScopeLines five() {
        ScopeLines x = new ScopeLines(300);
        Check.range(x, "<(a*)(b*) >", 0, 1);
        x.include(1, 0);
        Check.put(x, "<<a<bb<aab<", 0);
        Check.put(x, ">", 1);
        Check.put(x, ">>>>", 2);
        return x;
    }

    private static void statesAndTexts() {
        Supplier<ScopeLines> way = CallEdgesTest::five;
        CHECK.sentence("state: level -1: how many ranges are open; 0 .. 4: the range that is open there");
        int[] open = {5, 4, 0};
        for (int k = 0; k < 3; k++) {
            int line = k;
            CHECK.due("state(" + k + ", -1)", five().state(k, -1), open[k]);
            for (int level = 0; level <= 4; level++) {
                int asked = level;
                dueSame("state(" + k + ", " + level + ")", way, x -> x.state(line, asked), level < open[k] ? 1 : NONE);
            }
            CHECK.sentence("state: NONE if level is another number");
            for (int level : new int[] {LEAST, -3, -2, 5, 6, MOST}) {
                dueSame("state(" + k + ", " + level + ")", way, x -> x.state(line, level), NONE);
            }
        }
        CHECK.sentence("text: how many characters text t, 1 or 2, has");
        int[][] lengths = {{0, 0}, {1, 0}, {0, 2}, {2, 1}, {0, 0}};
        for (int k = 0; k < 3; k++) {
            int line = k;
            for (int level = 0; level < 5; level++) {
                int asked = level;
                for (int t = 1; t <= 2; t++) {
                    int text = t;
                    dueSame("text(" + k + ", " + level + ", " + t + ")", way, x -> x.text(line, asked, text),
                            level < open[k] ? lengths[level][t - 1] : NONE);
                }
            }
        }
        CHECK.sentence("text: NONE if there is no such text");
        for (int t : new int[] {LEAST, -1, 0, 3, 4, MOST}) {
            dueSame("text(0, 0, " + t + ")", way, x -> x.text(0, 0, t), NONE);
            dueSame("text(0, 4, " + t + ")", way, x -> x.text(0, 4, t), NONE);
        }
        CHECK.sentence("text: NONE if no range is open there");
        for (int level : new int[] {LEAST, -2, -1, 5, 6, MOST}) {
            dueSame("text(0, " + level + ", 1)", way, x -> x.text(0, level, 1), NONE);
            dueSame("text(2, " + level + ", 2)", way, x -> x.text(2, level, 2), NONE);
        }
    }

    private static void findRefusals() {
        CHECK.sentence("find: NONE if there is no such rule");
        for (int r : new int[] {LEAST, -1, 0, 5, 6, 9, 10, MOST}) {
            dueSame("find(" + r + ", 0, 0, 2)", SOME, x -> x.find(r, 0, 0, 2), NONE);
        }
        for (int r = 1; r <= 4; r++) {
            CHECK.due("find(" + r + ", 0, 0, 2)", SOME.get().find(r, 0, 0, 2) > 0, true);
        }
        CHECK.due("find(9, 0, 0, 2)", ALL.get().find(9, 0, 0, 2), 8);
        dueSame("find(10, 0, 0, 2)", ALL, x -> x.find(10, 0, 0, 2), NONE);
        CHECK.sentence("find: NONE if p is not 0 .. its length");
        for (int p : new int[] {LEAST, -1, 8, 9, 24, 25, MOST}) {
            dueSame("find(4, 0, " + p + ", 2)", SOME, x -> x.find(4, 0, p, 2), NONE);
        }
        for (int p : new int[] {-1, 25}) {
            dueSame("find(4, 3, " + p + ", 2)", SOME, x -> x.find(4, 3, p, 2), NONE);
        }
        int[] begins = {0, 6, 6, 6, 6, 6, 6, NONE};
        for (int p = 0; p <= 7; p++) {
            int place = p;
            dueSame("find(4, 0, " + p + ", 0)", SOME, x -> x.find(4, 0, place, 0), begins[p]);
            CHECK.due("its STEPS", SOME.get().find(4, 0, p, 2), begins[p] == NONE ? 1 : begins[p] - p + 1);
        }
        CHECK.due("find(4, 3, 24, 2)", SOME.get().find(4, 3, 24, 2), 1);
        CHECK.sentence("find: NONE if w is not 0 .. 8");
        for (int w : new int[] {LEAST, -1, 9, 10, MOST}) {
            dueSame("find(1, 0, 0, " + w + ")", SOME, x -> x.find(1, 0, 0, w), NONE);
            dueSame("find(4, 3, 0, " + w + "), which is OVER", SOME, x -> x.find(4, 3, 0, w), NONE);
        }
        CHECK.sentence("find: NONE, and not OVER, if there is no such rule or line, or p is no place");
        dueSame("find(5, 3, 0, 0)", SOME, x -> x.find(5, 3, 0, 0), NONE);
        dueSame("find(4, 4, 0, 0)", SOME, x -> x.find(4, 4, 0, 0), NONE);
        dueSame("find(4, 3, -1, 0)", SOME, x -> x.find(4, 3, -1, 0), NONE);
        dueSame("find(4, 3, 25, 0)", SOME, x -> x.find(4, 3, 25, 0), NONE);
    }

    private static void findAnswers() {
        CHECK.sentence("find: else, but for w = 2, OVER if it is so");
        for (int w = 0; w <= 8; w++) {
            int asked = w;
            dueSame("find(4, 3, 0, " + w + ")", SOME, x -> x.find(4, 3, 0, asked), w == 2 ? 20 : OVER);
            dueSame("find(4, 3, 4, " + w + ")", SOME, x -> x.find(4, 3, 4, asked), w == 2 ? 20 : OVER);
            dueSame("find(4, 3, 5, " + w + ")", SOME, x -> x.find(4, 3, 5, asked), w == 2 ? 20 : NONE);
            dueSame("find(4, 3, 6, " + w + ")", SOME, x -> x.find(4, 3, 6, asked), w == 2 ? 19 : NONE);
        }
        CHECK.sentence("find: NONE if there is no match or group, or it was not gone through");
        int[] inFirst = {1, 5, 6, 2, 4, 4, 5, NONE, NONE};
        int[] inThird = {4, 6, 7, 5, 5, 5, 6, NONE, NONE};
        int[] fromBehind = {NONE, NONE, 1, NONE, NONE, NONE, NONE, NONE, NONE};
        CHECK.dueFind(SOME.get(), 1, 0, 0, inFirst);
        CHECK.dueFind(SOME.get(), 1, 2, 0, inThird);
        CHECK.dueFind(SOME.get(), 1, 0, 7, fromBehind);
        CHECK.dueFind(SOME.get(), 2, 1, 0, 1, 3, 4, NONE, NONE, NONE, NONE, NONE, NONE);
        ScopeLines x = SOME.get();
        Check.put(x, "<", 0);
        CHECK.dueFind(x, 1, 0, 0, 0, 1, 3, 1, 1, NONE, NONE, NONE, NONE);
        CHECK.sentence("find: the pattern (or BEGIN) of rule r, not its END, whatever range is open");
        CHECK.dueFind(SOME.get(), 3, 1, 0, NONE, NONE, 4);
        CHECK.dueFind(SOME.get(), 3, 0, 0, 5, 6, 6);
        CHECK.dueFind(SOME.get(), 4, 2, 0, 3, 4, 4);
    }

    public static void main(String[] args) {
        newObject();
        typeOrder();
        typeRefusals();
        wipes();
        rules(false);
        rules(true);
        rangeDrafts();
        illDraftsLeaveNothing();
        includes();
        themes();
        puts();
        drops();
        counts();
        tokens();
        statesAndTexts();
        findRefusals();
        findAnswers();
        CHECK.finish("CallEdgesTest");
    }
}
