/** Each promise of the document: ordinary inputs, the edges that it names, and wrong inputs. */
public final class PromisesTest {
    private static final int NONE = ScopeLines.NONE;
    private static final int ILL = ScopeLines.ILL;
    private static final int FULL = ScopeLines.FULL;
    private static final int OVER = ScopeLines.OVER;
    private static final String MANY_B = "bbbbbbbbbbbbbbbbbbbbbbbb";

    private static final Check CHECK = new Check();

    private static void due(String call, long got, long want) {
        CHECK.due(call, got, want);
    }

    private static void due(String call, boolean got, boolean want) {
        CHECK.due(call, got, want);
    }

    private static void constants() {
        due("NONE", ScopeLines.NONE, -1);
        due("ILL", ScopeLines.ILL, -2);
        due("FULL", ScopeLines.FULL, -3);
        due("OVER", ScopeLines.OVER, -4);
    }

    /** A search that takes far more than 300 STEPS, so that w = 2 tells BUDGET. */
    private static int budgetOf(int given) {
        ScopeLines x = new ScopeLines(given);
        Check.piece(x, "(b+)+a", 0, 1);
        Check.put(x, MANY_B, 0);
        return x.find(1, 0, 0, 2);
    }

    private static void promise1() {
        due("budget 10", budgetOf(10), 10);
        due("budget 9", budgetOf(9), 10);
        due("budget 0", budgetOf(0), 10);
        due("least budget", budgetOf(Integer.MIN_VALUE), 10);
        due("budget 11", budgetOf(11), 11);
        due("budget 299", budgetOf(299), 299);
        due("budget 300", budgetOf(300), 300);
        due("budget 301", budgetOf(301), 300);
        due("most budget", budgetOf(Integer.MAX_VALUE), 300);
        ScopeLines x = new ScopeLines(50);
        due("new: lines", x.lines(), 0);
        due("new: passes", x.passes(), 0);
        due("new: piece(1)", x.piece(1, 1), NONE);
        due("new: piece(0)", x.piece(0, 1), ILL);
        due("new: put", x.put(0), 1);
        due("new: length", x.length(0), 0);
        due("new: find", x.find(1, 0, 0, 0), NONE);
        Check.piece(x, "a", 0, 1);
        Check.put(x, "a", 0);
        due("new: colour", x.token(0, 0, 3), 0);
    }

    private static void promise2() {
        ScopeLines x = new ScopeLines(300);
        due("type ab", x.type(0x6100006200000000L), true);
        due("type nothing", x.type(0L), true);
        due("type cdefghij", x.type(Check.packed("cdefghij")), true);
        due("type 31", x.type(0x6b1fL), false);
        due("type 127", x.type(0x6b7fL), false);
        due("type 128", x.type(0x6b80L), false);
        due("type 255 first", x.type(0xff0000000000006bL), false);
        due("type 32 and 126", x.type(0x207eL), true);
        due("put", x.put(0), 1);
        due("length", x.length(0), 12);
        Check.piece(x, "^abcdefghij.~$", 0, 1);
        due("the characters in their order", x.find(1, 0, 0, 0), 0);
        for (int n = 0; n < 4; n++) {
            due("type eight", x.type(Check.packed("aaaaaaaa")), true);
        }
        due("39 characters", x.type(Check.packed("aaaaaaa")), true);
        due("two more", x.type(Check.packed("aa")), false);
        due("one more", x.type(Check.packed("a")), true);
        due("the 41st", x.type(Check.packed("a")), false);
        due("none more", x.type(0L), true);
        due("a wrong byte", x.type(1L), false);
        due("too long for a line", x.put(1), ILL);
    }

    private static void promise3() {
        ScopeLines x = new ScopeLines(300);
        x.wipe();
        Check.draft(x, "abc");
        x.wipe();
        due("put", x.put(0), 1);
        due("length", x.length(0), 0);
        Check.draft(x, "(");
        due("stays", x.piece(0, 1), ILL);
        x.wipe();
        x.type('a');
        due("piece", x.piece(0, 1), 1);
    }

    private static void duePattern(String pattern, boolean good) {
        ScopeLines x = new ScopeLines(300);
        due("piece " + pattern, Check.piece(x, pattern, 0, 1), good ? 1 : ILL);
        if (pattern.indexOf(' ') < 0) {
            due("BEGIN " + pattern, Check.range(new ScopeLines(300), pattern + " a", 0, 1),
                    good && pattern.length() > 0 ? 1 : ILL);
        }
    }

    private static void promise4Patterns() {
        String[] good = {"a", "]", "-", "{2}", "|", "||", "()", "(|)", "a|b|", "(a)(b)(c)", "(((a)))", "a*", "a+",
            "a?", "a*?", "a+?", "a??", "^?", "$??", "(a*)?", "(a|)??", "(a+)+", "(a?b)+", "(a|b)*", "(^a)*",
            "\\(\\)\\[\\|\\*\\.\\\\", "\\d+", "\\]", "[a]", "[^a]", "[a-z]", "[a-a]", "[a-]", "[-a]", "[--9]",
            "[^^]", "[a^]", "[\\]", "[\\]]", "[[]", "[(*+?.$|)]", "[+--]*", "[a-c-e]",
            "\\(\\(\\(\\(", "[(][(][(][(]", "aaaaaaaaaaaaaaaaaaaa", ".^$."};
        String[] bad = {"", "*", "+", "?", "a**", "a*+", "a+*", "a???", "a+??", "a*??", "a|*", "(*a)", "(a", "a)",
            ")", "(", "a(|", "((((a))))", "()()()()", "^*", "^+", "$*?", "$+?", "()*", "(|a)+", "(a|)*?", "(a?)+",
            "(a*)*", "(a*b?)+?", "((a?))*", "((a)?)+", "(a|b??)*", "(^)*", "(^$)+", "[", "[a", "[]", "[^]", "[^",
            "[]a]x]*+", "[b-a]", "[z-ab]", "[a--]", "[a-", "\\", "a\\", "\\0", "\\1", "\\2", "\\3", "\\9", "(a)\\1",
            "a b", " ", "a ", " a", "[ ]", "\\ ", "aaaaaaaaaaaaaaaaaaaaa"};
        for (String pattern : good) {
            duePattern(pattern, true);
        }
        for (String pattern : bad) {
            duePattern(pattern, false);
        }
    }

    private static void promise4() {
        promise4Patterns();
        ScopeLines x = new ScopeLines(300);
        Check.draft(x, "a");
        due("home 1", x.piece(1, 5), NONE);
        due("home -1", x.piece(-1, 5), NONE);
        due("scope 0", x.piece(0, 0), NONE);
        due("scope 100", x.piece(0, 100), NONE);
        due("scope -1", x.piece(0, -1), NONE);
        due("the draft stayed", x.piece(0, 99), 1);
        due("the draft is empty", x.piece(0, 1), ILL);
        Check.draft(x, "b");
        due("a PIECE is no home", x.piece(1, 1), NONE);
        due("NONE before ILL", Check.piece(x, "(", 1, 1), NONE);
        Check.put(x, "ab", 0);
        Check.put(x, "ba", 1);
        int passes = x.passes();
        due("second", Check.piece(x, "b", 0, 7), 2);
        due("all lines are tokenized", x.passes(), passes + 2);
        CHECK.dueTokens(x, 0, "0:99/1 1:7/1");
        CHECK.dueTokens(x, 1, "0:7/1 1:99/1");
        for (int r = 3; r <= 9; r++) {
            due("piece " + r, Check.piece(x, "c", 0, 1), r);
        }
        passes = x.passes();
        due("ILL before FULL", Check.piece(x, "(", 0, 1), ILL);
        due("the tenth", Check.piece(x, "c", 0, 1), FULL);
        due("NONE before FULL", x.piece(0, 0), NONE);
        due("no passes", x.passes(), passes);
        due("the draft stays", x.put(0), 1);
        due("and is a line", x.length(0), 1);
    }

    private static void promise5() {
        String[] good = {"a b", "(a) \\1", "a \\1\\2", "a \\2$", "a (\\1)?", "a (\\1|b)??", "a (b\\1)+", "| |",
            "aaaaaaaaaaaaaaaaaaa bbbbbbbbbbbbbbbbbbbb", "aaaaaaaaaaaaaaaaaaaa bbbbbbbbbbbbbbbbbbb"};
        String[] bad = {"", " ", "a", "a ", " a", "a  b", "a b ", " a b", "a b c", "( )", "a (", "a( b)", "\\1 a",
            "a \\0", "a \\3", "a \\1*", "a \\1?", "a \\2+", "a \\2??", "a (\\1)*", "a (b|\\2)+?", "a\\ b",
            "aaaaaaaaaaaaaaaaaaaaa b", "a bbbbbbbbbbbbbbbbbbbbb"};
        for (String both : good) {
            due("range " + both, Check.range(new ScopeLines(300), both, 0, 1), 1);
        }
        for (String both : bad) {
            due("range " + both, Check.range(new ScopeLines(300), both, 0, 1), ILL);
        }
        ScopeLines x = new ScopeLines(300);
        Check.draft(x, "< >");
        due("home 1", x.range(1, 5), NONE);
        due("home -1", x.range(-1, 5), NONE);
        due("scope 0", x.range(0, 0), NONE);
        due("scope 100", x.range(0, 100), NONE);
        due("the draft stayed", x.range(0, 99), 1);
        due("the draft is empty", x.range(0, 1), ILL);
        due("NONE before ILL", x.range(2, 1), NONE);
        Check.put(x, "<a>", 0);
        int passes = x.passes();
        due("within the range", Check.range(x, "a b", 1, 3), 2);
        due("all lines are tokenized", x.passes(), passes + 1);
        CHECK.dueTokens(x, 0, "0:99/1 1:3/2 2:3/2");
        due("two are open", x.state(0, -1), 2);
        for (int r = 3; r <= 9; r++) {
            due("range " + r, Check.range(x, "x y", 2, 1), r);
        }
        due("ILL before FULL", Check.range(x, "x", 0, 1), ILL);
        due("the tenth", Check.range(x, "x y", 0, 1), FULL);
        due("the draft stays", x.put(1), 1);
        due("and is a line", x.length(1), 3);
    }

    private static void promise6() {
        ScopeLines x = new ScopeLines(300);
        Check.range(x, "< >", 0, 1);
        Check.piece(x, "a", 0, 2);
        Check.range(x, "b c", 1, 3);
        Check.piece(x, "a", 3, 4);
        due("not of itself yet", Check.put(x, "<aba>", 0), 1);
        CHECK.dueTokens(x, 0, "0:1/1 1:1/1 2:3/2 3:4/3 4:3/2");
        due("-1", x.include(-1, 0), false);
        due("a PIECE", x.include(2, 0), false);
        due("into a PIECE", x.include(0, 2), false);
        due("no such", x.include(0, 5), false);
        due("nor 10", x.include(10, 0), false);
        int passes = x.passes();
        due("1, 0", x.include(1, 0), true);
        due("all lines are tokenized", x.passes(), passes + 1);
        due("again", x.include(1, 0), false);
        due("changes nothing", x.passes(), passes + 1);
        CHECK.dueTokens(x, 0, "0:1/1 1:2/2 2:3/2 3:4/3 4:3/2");
        due("another one", x.include(1, 3), true);
        CHECK.dueTokens(x, 0, "0:1/1 1:4/2 2:3/2 3:4/3 4:3/2");
        due("and 0 again", x.include(1, 0), true);
        due("itself", x.include(3, 3), true);
        due("the OUTER one itself", x.include(0, 0), true);
        due("the OUTER one another", x.include(0, 3), true);
        due("one that is around it", x.include(3, 1), true);
        Check.put(x, "b>", 1);
        due("its rules, but not its END", x.state(1, -1), 3);
    }

    private static void candidates() {
        ScopeLines x = new ScopeLines(300);
        Check.range(x, "< a", 0, 1);
        Check.piece(x, "a", 1, 2);
        Check.piece(x, "b", 0, 3);
        Check.piece(x, "b", 1, 4);
        Check.piece(x, "bc|c", 0, 5);
        x.include(1, 0);
        Check.put(x, "<bcab", 0);
        CHECK.dueTokens(x, 0, "0:1/1 1:4/2 2:5/2 3:1/1 4:3/1");
        due("lower numbers first", Check.piece(x, "bca", 0, 6), 6);
        CHECK.dueTokens(x, 0, "0:1/1 1:4/2 2:5/2 3:1/1 4:3/1");
        due("the first to begin", Check.piece(x, "<b", 0, 7), 7);
        CHECK.dueTokens(x, 0, "0:1/1 1:4/2 2:5/2 3:1/1 4:3/1");
    }

    private static void tokenizing() {
        ScopeLines x = new ScopeLines(300);
        Check.piece(x, "a*", 0, 1);
        Check.put(x, "aabaa", 0);
        CHECK.dueTokens(x, 0, "0:1/1 2:0/0");
        x = new ScopeLines(300);
        Check.piece(x, "$", 0, 1);
        Check.put(x, "ab", 0);
        CHECK.dueTokens(x, 0, "0:0/0");
        x = new ScopeLines(300);
        Check.range(x, "#|$ $", 0, 1);
        Check.put(x, "a#b", 0);
        CHECK.dueTokens(x, 0, "0:0/0 1:1/1 2:1/1");
        due("closed at the line's end", x.state(0, -1), 0);
        Check.put(x, "", 1);
        due("no BEGIN of no characters at q", x.state(1, -1), 0);
        due("no tokens", x.tokens(1), 0);
        x = new ScopeLines(300);
        Check.range(x, "$ x", 0, 1);
        Check.put(x, "ab", 0);
        CHECK.dueTokens(x, 0, "0:0/0");
        due("a BEGIN of no characters behind q", x.state(0, -1), 1);
        x = new ScopeLines(300);
        Check.range(x, "[(] [)]", 0, 3);
        x.include(1, 0);
        Check.put(x, "a((((((b", 0);
        CHECK.dueTokens(x, 0, "0:0/0 1:3/1 2:3/2 3:3/3 4:3/4 5:3/5 6:3/5");
        due("five at most", x.state(0, -1), 5);
        Check.put(x, ")a))", 1);
        CHECK.dueTokens(x, 1, "0:3/5 1:3/4 2:3/4 3:3/3");
        due("two left", x.state(1, -1), 2);
        x = new ScopeLines(300);
        Check.range(x, "(b) ^|x", 0, 2);
        Check.put(x, "b", 0);
        Check.put(x, "x", 1);
        due("an END of no characters at q", x.state(1, -1), 0);
        CHECK.dueTokens(x, 1, "0:0/0");
    }

    private static void marking() {
        ScopeLines x = new ScopeLines(10);
        Check.range(x, "< >", 0, 4);
        Check.piece(x, "x", 1, 5);
        Check.put(x, "a<x", 0);
        CHECK.dueTokens(x, 0, "0:0/0 1:4/1 2:5/2");
        due("OVER", Check.put(x, "x><bbbbbbbbbbbb", 1), 1);
        due("marked", x.marked(1), true);
        CHECK.dueTokens(x, 1, "0:4/1");
        due("begun so", x.state(1, -1), 1);
        due("begun with", x.state(1, 0), 1);
        x = new ScopeLines(10);
        Check.piece(x, "a", 0, 1);
        Check.put(x, "abbbbbbbb", 0);
        due("not OVER from place 1 on", x.marked(0), false);
        Check.piece(x, "[cd][cd]|c|d", 0, 2);
        due("a later candidate is OVER", x.marked(0), true);
        CHECK.dueTokens(x, 0, "0:0/0");
        x = new ScopeLines(10);
        Check.range(x, "< >", 0, 4);
        Check.put(x, "<", 0);
        Check.put(x, ">bbbbbbbbbbbb", 1);
        due("OVER when the range is closed", x.marked(1), true);
        due("it is open again", x.state(1, 0), 1);
        CHECK.dueTokens(x, 1, "0:4/1");
        x = new ScopeLines(20);
        Check.piece(x, "a+", 0, 1);
        Check.piece(x, "b|c", 0, 2);
        Check.put(x, "aaaaaaaaaaaa", 0);
        due("OVER though an earlier candidate matches", x.marked(0), true);
        x = new ScopeLines(10);
        Check.piece(x, "a|a|a|a|a|a|a|a|a|a", 0, 1);
        Check.put(x, "", 0);
        due("ten STEPS are not too many", x.marked(0), false);
        Check.piece(x, "$(a|a|a|a|a|a|a|a|a)", 0, 1);
        due("nor ten of another one", x.marked(0), false);
        Check.piece(x, "$(a|a|a|a|a|a|a)(b)?", 0, 1);
        Check.piece(x, "$$$(a|a|a|a|a|a|a|a)", 0, 1);
        due("eleven are", x.marked(0), true);
        due("a line of no characters", x.tokens(0), 0);
    }

    private static void promise7() {
        ScopeLines x = new ScopeLines(300);
        due("scope 0", x.theme(0, 0, 1), false);
        due("scope 100", x.theme(100, 0, 1), false);
        due("parent -1", x.theme(1, -1, 1), false);
        due("parent 100", x.theme(1, 100, 1), false);
        due("colour 0", x.theme(1, 0, 0), false);
        due("colour 256", x.theme(1, 0, 256), false);
        due("1", x.theme(1, 0, 1), true);
        due("2", x.theme(99, 99, 255), true);
        due("3", x.theme(1, 0, 1), true);
        due("4", x.theme(1, 0, 1), true);
        due("5", x.theme(1, 0, 1), true);
        due("6", x.theme(1, 0, 1), true);
        due("7", x.theme(1, 0, 1), false);
    }

    private static void colours() {
        ScopeLines x = new ScopeLines(300);
        Check.range(x, "< >", 0, 1);
        Check.range(x, "< >", 1, 2);
        Check.piece(x, "a", 2, 3);
        Check.put(x, "b<c<a", 0);
        due("no entries", x.token(0, 4, 3), 0);
        x.theme(1, 0, 10);
        due("no scopes", x.token(0, 0, 3), 0);
        due("the outermost", x.token(0, 4, 3), 10);
        x.theme(2, 2, 20);
        due("not under itself", x.token(0, 3, 3), 10);
        x.theme(2, 3, 30);
        due("nor under one behind it", x.token(0, 4, 3), 10);
        x.theme(3, 1, 40);
        due("anywhere ahead of it", x.token(0, 4, 3), 40);
        x.theme(3, 0, 50);
        due("a PARENT comes first", x.token(0, 4, 3), 40);
        x.theme(3, 2, 60);
        due("then the latest", x.token(0, 4, 3), 60);
        due("no more", x.theme(3, 0, 70), false);
        due("passes stay", x.passes(), 1);
        x = new ScopeLines(300);
        Check.piece(x, "a", 0, 3);
        Check.put(x, "a", 0);
        x.theme(3, 0, 1);
        x.theme(3, 0, 2);
        due("the latest without a PARENT", x.token(0, 0, 3), 2);
        x.theme(3, 3, 9);
        due("it has none", x.token(0, 0, 3), 2);
    }

    private static void promise8() {
        ScopeLines x = new ScopeLines(300);
        Check.range(x, "<(.)(.)? \\1>", 0, 1);
        Check.draft(x, "<ab");
        due("put(-1)", x.put(-1), NONE);
        due("put(1)", x.put(1), NONE);
        due("put(0)", x.put(0), 1);
        due("the draft is empty", x.put(1), 1);
        due("empty line", x.length(1), 0);
        Check.put(x, "a>", 2);
        Check.put(x, "x", 3);
        due("same end state", Check.put(x, "y<ab", 0), 1);
        due("other text 2", Check.put(x, "<ac", 0), 3);
        due("other text 1", Check.put(x, "<bc", 0), 4);
        due("and back", Check.put(x, "<ac", 0), 4);
        due("text 2 none", Check.put(x, "<a", 0), 3);
        due("the last one", Check.put(x, "<a", 3), 1);
        due("sum", x.passes(), 4 + 1 + 3 + 4 + 4 + 3 + 1);
        Check.put(x, MANY_B, 4);
        due("24 characters", x.length(4), 24);
        Check.draft(x, MANY_B + "b");
        due("25 characters", x.put(5), ILL);
        due("NONE before ILL", x.put(6), NONE);
        due("no line", x.lines(), 5);
        Check.put(x, "a", 5);
        Check.draft(x, MANY_B + "b");
        due("ILL before FULL", x.put(6), ILL);
        due("seventh", Check.put(x, "a", 6), FULL);
        due("NONE", x.put(7), NONE);
        due("the draft stayed", x.put(5), 1);
        due("and is there", x.length(5), 1);
        due("six lines", x.lines(), 6);
    }

    private static void promise9() {
        ScopeLines x = new ScopeLines(300);
        Check.range(x, "<(.) \\1>", 0, 1);
        due("none", x.drop(0), NONE);
        Check.put(x, "<a", 0);
        Check.put(x, "b", 1);
        Check.put(x, "a>", 2);
        Check.put(x, "c", 3);
        due("-1", x.drop(-1), NONE);
        due("4", x.drop(4), NONE);
        due("nothing changes behind it", x.drop(1), 1);
        due("three lines", x.lines(), 3);
        due("moved up", x.length(1), 2);
        due("one that closed", x.drop(1), 1);
        due("c is in the range", x.state(1, -1), 1);
        CHECK.dueTokens(x, 1, "0:1/1");
        due("one that opened", x.drop(0), 1);
        due("c is not", x.state(0, -1), 0);
        due("the last one", x.drop(0), 0);
        due("no lines", x.lines(), 0);
        due("sum", x.passes(), 4 + 1 + 1 + 1);
        x = new ScopeLines(300);
        Check.range(x, "< >", 0, 1);
        Check.put(x, "<", 0);
        Check.put(x, "a", 1);
        Check.put(x, "b", 2);
        Check.put(x, "<", 3);
        Check.put(x, "c", 4);
        due("until the state is as it was", x.drop(0), 3);
        due("c", x.state(3, -1), 1);
        Check.put(x, "dd", 4);
        Check.put(x, "eee", 5);
        due("lines behind a drop are new ones", x.length(3) * 100 + x.length(4) * 10 + x.length(5), 123);
    }

    private static void promises10To13() {
        ScopeLines x = new ScopeLines(300);
        due("lines", x.lines(), 0);
        Check.put(x, "abc", 0);
        Check.put(x, "", 1);
        due("lines", x.lines(), 2);
        due("passes", x.passes(), 2);
        Check.piece(x, "b", 0, 1);
        due("passes with a rule", x.passes(), 4);
        due("length(0)", x.length(0), 3);
        due("length(1)", x.length(1), 0);
        due("length(2)", x.length(2), NONE);
        due("length(-1)", x.length(-1), NONE);
        due("tokens(0)", x.tokens(0), 3);
        due("tokens(1)", x.tokens(1), 0);
        due("tokens(2)", x.tokens(2), NONE);
        due("tokens(-1)", x.tokens(-1), NONE);
        x.include(0, 0);
        due("passes with an include", x.passes(), 6);
        Check.put(x, "babababababababababababa", 1);
        due("24 tokens", x.tokens(1), 24);
        x.drop(1);
        due("a dropped one", x.tokens(1), NONE);
        due("lines", x.lines(), 1);
        due("passes", x.passes(), 7);
    }

    private static void promise14() {
        ScopeLines x = new ScopeLines(300);
        Check.range(x, "< >", 0, 7);
        Check.piece(x, "a+", 1, 8);
        x.theme(8, 7, 9);
        Check.put(x, "b<aac", 0);
        int[][] tokens = {{0, 0, 0, 0}, {1, 1, 7, 0}, {2, 2, 8, 9}, {4, 1, 7, 0}};
        for (int t = 0; t < tokens.length; t++) {
            for (int w = 0; w < 4; w++) {
                due("token(0, " + t + ", " + w + ")", x.token(0, t, w), tokens[t][w]);
            }
        }
        due("no such token", x.token(0, 4, 0), NONE);
        due("token -1", x.token(0, -1, 0), NONE);
        due("no such line", x.token(1, 0, 0), NONE);
        due("line -1", x.token(-1, 0, 0), NONE);
        due("w 4", x.token(0, 0, 4), NONE);
        due("w -1", x.token(0, 0, -1), NONE);
    }

    private static void promise15() {
        ScopeLines x = new ScopeLines(10);
        due("no line", x.marked(0), false);
        Check.put(x, MANY_B, 0);
        due("no rules", x.marked(0), false);
        Check.piece(x, "a", 0, 1);
        due("OVER", x.marked(0), true);
        due("line -1", x.marked(-1), false);
        due("line 1", x.marked(1), false);
        Check.put(x, "a", 0);
        due("not any more", x.marked(0), false);
        Check.put(x, MANY_B, 1);
        x.drop(1);
        due("dropped", x.marked(1), false);
    }

    private static void promises16And17() {
        ScopeLines x = new ScopeLines(300);
        Check.range(x, "<(a*)(b+)? >", 0, 1);
        Check.range(x, "[(](.)(.)([)])? \\2\\1", 1, 2);
        Check.put(x, "<aaa(xy", 0);
        due("two", x.state(0, -1), 2);
        due("outermost", x.state(0, 0), 1);
        due("innermost", x.state(0, 1), 2);
        due("level 2", x.state(0, 2), NONE);
        due("level 4", x.state(0, 4), NONE);
        due("level 5", x.state(0, 5), NONE);
        due("level -2", x.state(0, -2), NONE);
        due("no line", x.state(1, -1), NONE);
        due("line -1", x.state(-1, 0), NONE);
        due("text 1", x.text(0, 0, 1), 3);
        due("text 2, none", x.text(0, 0, 2), 0);
        due("text 1 within", x.text(0, 1, 1), 1);
        due("text 2 within", x.text(0, 1, 2), 1);
        due("text 0", x.text(0, 0, 0), NONE);
        due("text 3", x.text(0, 0, 3), NONE);
        due("level 2", x.text(0, 2, 1), NONE);
        due("level -1", x.text(0, -1, 1), NONE);
        due("no line", x.text(1, 0, 1), NONE);
        due("line -1", x.text(-1, 0, 1), NONE);
        Check.put(x, "xyy", 1);
        due("\\2\\1 is not there", x.state(1, -1), 2);
        Check.put(x, "xyx", 1);
        due("\\2\\1 is there", x.state(1, -1), 1);
        due("its text is left", x.text(1, 0, 1), 3);
        Check.put(x, "yx><b", 1);
        due("another one", x.state(1, -1), 1);
        due("with no text 1", x.text(1, 0, 1), 0);
        due("but a text 2", x.text(1, 0, 2), 1);
    }

    private static void dueFind(String pattern, String line, int p, int... want) {
        CHECK.dueFind(pattern, line, p, want);
    }

    private static void matching() {
        dueFind("abc", "ababc", 0, 2, 5, 7, NONE);
        dueFind("a|ab", "ab", 0, 0, 1, 1);
        dueFind("ab|a", "ac", 0, 0, 1, 3);
        dueFind("(a*)(a*)", "aaa", 0, 0, 3, 5, 0, 3, 3, 3, NONE, NONE);
        dueFind("(a*?)(a*)$", "aaa", 0, 0, 3, 5, 0, 0, 0, 3);
        dueFind("(a+?)(a?)", "aaa", 0, 0, 2, 2, 0, 1, 1, 2);
        dueFind("(a??)(a)??$", "aa", 0, 0, 2, 7, 0, 1, 1, 2);
        dueFind("(a|(b))+", "bac", 0, 0, 2, 5, 1, 2, 0, 1);
        dueFind("((a)x|ay)", "ay", 0, 0, 2, 4, 0, 2, NONE, NONE);
        dueFind("(a(b)?)+", "aba", 0, 0, 3, 5, 2, 3, 1, 2);
        dueFind("(a)+b", "aab", 0, 0, 3, 4, 1, 2);
        dueFind("^b", "ab", 0, NONE, NONE, 4);
        dueFind("^b", "ab", 1, NONE, NONE, 2);
        dueFind("b$", "bb", 0, 1, 2, 4);
        dueFind("$", "ab", 0, 2, 2, 3);
        dueFind(".", "", 0, NONE, NONE, 1);
        dueFind(".", "ab", 2, NONE, NONE, 1);
        dueFind("|a", "ab", 1, 1, 1, 0);
        dueFind("()()()", "ab", 2, 2, 2, 0, 2, 2, 2, 2, 2, 2);
        dueFind("[^a-c-]", "a-cb d", 0, 4, 5, 5);
        dueFind("[--/]+", "+,-./0", 0, 2, 5, 6);
        dueFind("[~@`_]+", " !~@`_", 0, 2, 6, 7);
        dueFind("[^~]", "~~`", 0, 2, 3, 3);
        dueFind("[!-~]+", " a~!", 0, 1, 4, 5);
        dueFind("\\.\\*", "a.*", 0, 1, 3, 3);
        dueFind("[\\]]", "a]\\]", 0, 2, 4, 4);
    }

    private static void textSteps() {
        ScopeLines x = new ScopeLines(10);
        Check.range(x, "<(a*) \\1x|>", 0, 1);
        Check.put(x, "<aaa", 0);
        Check.put(x, "aab", 1);
        due("4 + 3 + 2 + 2 STEPS", x.marked(1), true);
        Check.put(x, "b", 1);
        due("4 STEPS", x.marked(1), false);
        Check.put(x, "bbbb", 1);
        due("10 STEPS", x.marked(1), false);
        Check.put(x, "bbbbb", 1);
        due("12 STEPS", x.marked(1), true);
        Check.put(x, "<", 0);
        Check.put(x, "bbbb", 1);
        due("an empty text makes none", x.marked(1), false);
    }

    private static void promise18() {
        matching();
        textSteps();
        ScopeLines x = new ScopeLines(10);
        Check.range(x, "(b)|(c) b", 0, 1);
        Check.put(x, "aac", 0);
        due("BEGIN", x.find(1, 0, 0, 0), 2);
        due("its end", x.find(1, 0, 0, 1), 3);
        due("STEPS", x.find(1, 0, 0, 2), 6);
        due("group 1", x.find(1, 0, 0, 3), NONE);
        due("group 2", x.find(1, 0, 0, 5), 2);
        due("its end", x.find(1, 0, 0, 6), 3);
        due("group 3", x.find(1, 0, 0, 8), NONE);
        due("rule 0", x.find(0, 0, 0, 2), NONE);
        due("rule -1", x.find(-1, 0, 0, 2), NONE);
        due("rule 2", x.find(2, 0, 0, 2), NONE);
        due("line 1", x.find(1, 1, 0, 0), NONE);
        due("line -1", x.find(1, -1, 0, 0), NONE);
        due("place -1", x.find(1, 0, -1, 2), NONE);
        due("place 3", x.find(1, 0, 3, 2), 2);
        due("place 4", x.find(1, 0, 4, 2), NONE);
        due("w 9", x.find(1, 0, 0, 9), NONE);
        due("w -1", x.find(1, 0, 0, -1), NONE);
        Check.put(x, "aaaa", 0);
        due("ten STEPS", x.find(1, 0, 0, 2), 10);
        due("no match", x.find(1, 0, 0, 0), NONE);
        Check.put(x, "aaaaac", 0);
        due("OVER", x.find(1, 0, 0, 0), OVER);
        due("OVER, its end", x.find(1, 0, 0, 1), OVER);
        due("OVER, STEPS", x.find(1, 0, 0, 2), 10);
        due("OVER, group 3", x.find(1, 0, 0, 8), OVER);
        due("OVER, w 9", x.find(1, 0, 0, 9), NONE);
        due("from 2 on", x.find(1, 0, 2, 0), 5);
        due("passes stay", x.passes(), 3);
    }

    public static void main(String[] args) {
        constants();
        promise1();
        promise2();
        promise3();
        promise4();
        promise5();
        promise6();
        candidates();
        tokenizing();
        marking();
        promise7();
        colours();
        promise8();
        promise9();
        promises10To13();
        promise14();
        promise15();
        promises16And17();
        promise18();
        CHECK.finish("PromisesTest");
    }
}
