/**
 * The sentences of the document's "Terms" on patterns, MATCHING and SEARCHES that name an edge: the
 * last input that is taken and the first one that is refused.
 */
public final class PatternEdgesTest {
    private static final int NONE = ScopeLines.NONE;
    private static final int ILL = ScopeLines.ILL;
    private static final int OVER = ScopeLines.OVER;
    private static final String[] QUANTIFIERS = {"*", "+", "?", "*?", "+?", "??"};
    private static final String[] REPEATING = {"*", "+", "*?", "+?"};
    private static final String[] ONCE = {"?", "??"};
    private static final String ALL = allCharacters();

    private static final Check CHECK = new Check();

    private static String allCharacters() {
        StringBuilder all = new StringBuilder();
        for (char c = 32; c <= 126; c++) {
            all.append(c);
        }
        return all.toString();
    }

    private static String but(String left) {
        StringBuilder all = new StringBuilder();
        for (char c : ALL.toCharArray()) {
            all.append(left.indexOf(c) < 0 ? String.valueOf(c) : "");
        }
        return all.toString();
    }

    private static void duePiece(String pattern, boolean good) {
        ScopeLines x = new ScopeLines(300);
        CHECK.due("piece " + pattern, Check.piece(x, pattern, 0, 1), good ? 1 : ILL);
        dueDraft(x, pattern, good);
    }

    private static void dueRange(String both, boolean good) {
        ScopeLines x = new ScopeLines(300);
        CHECK.due("range " + both, Check.range(x, both, 0, 1), good ? 1 : ILL);
        dueDraft(x, both, good);
    }

    /** A draft that was taken is empty and a rule; one that was refused stays, and there is no rule. */
    private static void dueDraft(ScopeLines x, String draft, boolean taken) {
        int length = taken ? 0 : draft.length();
        CHECK.due("a line of " + draft, x.put(0), length > 24 ? ILL : 1);
        CHECK.due("its length", x.length(0), length > 24 ? NONE : length);
        CHECK.due("the next rule", Check.piece(x, "a", 0, 1), taken ? 2 : 1);
    }

    /** As a PIECE's pattern, as a BEGIN and as an END. */
    private static void duePattern(String pattern, boolean good) {
        duePiece(pattern, good);
        dueRange(pattern + " q", good);
        dueRange("q " + pattern, good);
    }

    /** Which characters a pattern matches that goes over one of them. */
    private static void dueMembers(String pattern, String members) {
        ScopeLines x = new ScopeLines(300);
        CHECK.due("piece " + pattern, Check.piece(x, pattern, 0, 1), 1);
        for (char c : ALL.toCharArray()) {
            Check.put(x, String.valueOf(c), 0);
            CHECK.due(pattern + " in " + c, x.find(1, 0, 0, 0), members.indexOf(c) >= 0 ? 0 : NONE);
        }
    }

    private static void lengths() {
        CHECK.sentence("PATTERNS have 1 .. 20 characters");
        for (int n = 0; n <= 22; n++) {
            duePattern("a".repeat(n), n >= 1 && n <= 20);
        }
        duePattern("\\a".repeat(10), true);
        duePattern("\\a".repeat(10) + "a", false);
        duePattern("a" + "\\a".repeat(10), false);
        duePattern("[" + "a".repeat(18) + "]", true);
        duePattern("[" + "a".repeat(19) + "]", false);
        duePattern("(" + "a".repeat(18) + ")", true);
        duePattern("(" + "a".repeat(19) + ")", false);
        duePattern("|".repeat(20), true);
        duePattern("|".repeat(21), false);
        duePattern("a?".repeat(10), true);
        duePattern("a*?".repeat(6) + "a?", true);
        duePattern("a*?".repeat(6) + "a??", false);
        dueRange("a".repeat(19) + " " + "b".repeat(20), true);
        dueRange("a".repeat(20) + " " + "b".repeat(19), true);
        dueRange("a".repeat(21) + " " + "b".repeat(18), false);
        dueRange("a".repeat(18) + " " + "b".repeat(21), false);
        CHECK.dueFind("a".repeat(20), "b" + "a".repeat(20), 0, 1, 21, 21);
        CHECK.dueFind("|".repeat(20), "a", 0, 0, 0, 0);
        CHECK.dueFind("a|".repeat(10), "b", 0, 0, 0, 10);
        CHECK.sentence("PATTERNS have 1 .. 20 characters: what is not ended at the 20th is none");
        String[] open = {"[", "[^", "[a", "[^a", "[a-", "[a-b", "\\", "(", "(a", "(a|", "a**", "a???", "|*"};
        for (String last : open) {
            duePattern("a".repeat(20 - last.length()) + last, false);
        }
        String[] ended = {"[a]", "[^a]", "[a-]", "[a-b]", "\\a", "(a)", "(a|)", "a*", "a*?", "a??", "|", "^", "$"};
        for (String last : ended) {
            duePattern("a".repeat(20 - last.length()) + last, true);
        }
    }

    private static void blanks() {
        CHECK.sentence("none of them a blank");
        String[] places = {"%", "%a", "a%", "a%b", "[%]", "[a%]", "[^%]", "[%-a]", "\\%", "(%)", "a|%", "%*"};
        for (String place : places) {
            duePiece(place.replace("%", " "), false);
            duePattern(place.replace("%", "!"), true);
        }
        String[] ranges = {"a% b", "%a b", "a b%", "a %b", "a b%c", "a [%]", "a \\%"};
        for (String place : ranges) {
            dueRange(place.replace("%", " "), false);
            dueRange(place.replace("%", "!"), true);
        }
    }

    private static void characters() {
        CHECK.sentence("a character that is none of ( ) [ | * + ? . ^ $ \\");
        for (char c = 33; c <= 126; c++) {
            String alone = String.valueOf(c);
            duePattern(alone, "()[*+?\\".indexOf(c) < 0);
            if ("()[|*+?.^$\\".indexOf(c) < 0) {
                dueMembers(alone, alone);
            }
        }
        dueMembers("|", ALL);
        dueMembers(".", ALL);
        dueMembers("^", ALL);
        CHECK.dueFind("$", "$", 0, 1, 1, 2);
        CHECK.dueFind("a{2}]", "aaa{2}]", 0, 2, 7, 9);
    }

    private static void escapes() {
        CHECK.sentence("\\ and another character stands for that character");
        for (char c = 33; c <= 126; c++) {
            boolean isDigit = c >= '0' && c <= '9';
            duePiece("\\" + c, !isDigit);
            dueRange("\\" + c + " q", !isDigit);
            dueRange("q \\" + c, !isDigit || c == '1' || c == '2');
            if (!isDigit) {
                dueMembers("\\" + c, String.valueOf(c));
            }
        }
        CHECK.sentence("\\ and a character");
        String[] atTheEnd = {"\\", "a\\", "a|\\", "(\\", "(a)\\", "\\\\\\", "(a\\)", "[a\\"};
        for (String pattern : atTheEnd) {
            duePattern(pattern, false);
        }
        duePattern("\\\\", true);
        duePattern("(a\\))", true);
        duePattern("\\[a", true);
        duePattern("\\(a", true);
        duePattern("a\\|b", true);
        CHECK.dueFind("a\\|b", "aa|b", 0, 1, 4, 5);
        CHECK.dueFind("\\a*", "aab", 0, 0, 2, 3);
        CHECK.dueFind("\\**", "**b", 0, 0, 2, 3);
    }

    private static void emptyBranches() {
        CHECK.sentence("branch = { piece }");
        String[] good = {"|", "||", "a|", "|a", "a||b", "()", "(|)", "(a|)", "(|a)", "()|()", "(())", "((|)|)"};
        for (String pattern : good) {
            duePattern(pattern, true);
        }
        CHECK.dueFind("a|", "b", 0, 0, 0, 1);
        CHECK.dueFind("a|", "a", 0, 0, 1, 1);
        CHECK.dueFind("|a", "a", 0, 0, 0, 0);
        CHECK.dueFind("b||a", "a", 0, 0, 0, 1);
        CHECK.dueFind("()", "a", 1, 1, 1, 0, 1, 1, NONE, NONE);
        CHECK.dueFind("(|a)b", "ab", 0, 0, 2, 3, 0, 1);
        CHECK.dueFind("(a|)b", "b", 0, 0, 1, 2, 0, 0);
    }

    private static void quantifiers() {
        CHECK.sentence("quantifier = * or + or ? or *? or +? or ??");
        String[] atoms = {"a", ".", "[a]", "[^a-c]", "\\a", "\\*", "(a)", "(a|b)", "]", "{"};
        for (String q : QUANTIFIERS) {
            for (String atom : atoms) {
                duePattern(atom + q, true);
                duePattern("x" + atom + q + "y", true);
            }
            for (String more : new String[] {"*", "+", "?"}) {
                duePattern("a" + q + more, q.length() == 1 && more.equals("?"));
                duePattern("(a" + q + ")" + more + "b", q.startsWith("+") || more.equals("?"));
            }
            duePattern("a" + q + "b" + q, true);
        }
        CHECK.sentence("piece = atom [ quantifier ]");
        for (String q : QUANTIFIERS) {
            duePattern(q, false);
            duePattern("|" + q, false);
            duePattern("a|" + q, false);
            duePattern("(" + q + ")", false);
            duePattern("(a|" + q + ")", false);
            duePattern("(" + q + "a)", false);
        }
    }

    private static void parentheses() {
        CHECK.sentence("( pattern )");
        String[] good = {"(a)", "((a))", "(a)(b)", "(a|b)c", "\\(", "\\)", "[()]", "(a\\))", "([)])"};
        String[] bad = {"(", ")", "(a", "a)", "(a))", "((a)", ")(", "a|b)", "(a|b", "(a\\)", "([)]", "())", "(()"};
        for (String pattern : good) {
            duePattern(pattern, true);
        }
        for (String pattern : bad) {
            duePattern(pattern, false);
        }
        CHECK.sentence("There are at most three ( in a pattern");
        String[] three = {"(a)(b)(c)", "(((a)))", "((a)(b))", "(a)|(b)|(c)", "()()()", "(a(b)(c))"};
        for (String pattern : three) {
            duePattern(pattern, true);
            duePattern(pattern + "(d)", false);
            duePattern("(d)" + pattern, false);
            duePattern("(" + pattern + ")", false);
            duePattern(pattern + "[(]\\(", true);
            duePattern(pattern + "(", false);
            duePattern(pattern + "(d", false);
            duePattern("(" + pattern, false);
        }
        CHECK.sentence("these GROUPS are numbered 1, 2, 3 by their (");
        CHECK.dueFind("((a)(b))", "xab", 0, 1, 3, 3, 1, 3, 1, 2, 2, 3);
        CHECK.dueFind("(a)(b)(c)", "abc", 0, 0, 3, 3, 0, 1, 1, 2, 2, 3);
        CHECK.dueFind("(((a)b)c)", "abc", 0, 0, 3, 3, 0, 3, 0, 2, 0, 1);
        CHECK.dueFind("\\((a)[(](b)", "(a(b", 0, 0, 4, 4, 1, 2, 3, 4, NONE, NONE);
    }

    private static void sets() {
        CHECK.sentence("[ [ ^ ] item { item } ]");
        String[] bad = {"[", "[]", "[^", "[^]", "[a", "[^a", "[a-", "[a-b", "[]a]*+", "a[", "a[]", "([)", "[\\"};
        for (String pattern : bad) {
            duePattern(pattern, false);
        }
        dueMembers("[a]", "a");
        dueMembers("[aa]", "a");
        dueMembers("[az]", "az");
        dueMembers("[^a]", but("a"));
        dueMembers("[^az]", but("az"));
        dueMembers("[!-~]", but(" "));
        dueMembers("[^!-~]", " ");
        dueMembers("[_]", "_");
        dueMembers("[`]", "`");
        dueMembers("[_-`]", "_`");
        dueMembers("[^_]", but("_"));
        dueMembers("[^`]", but("`"));
        dueMembers("[b-da-c]", "abcd");
        dueMembers("[(*+?.$|)[]", "(*+?.$|)[");
        CHECK.dueFind("[a][b][c][d][e][f]", "abcdeabcdef", 0, 5, 11, 16);
        CHECK.dueFind("[a-c][^a-c]", "abcd", 0, 2, 4, 6);
        CHECK.dueNotFound("[ab][c]", "abab", 9);
        CHECK.dueNotFound("[AB][1]", "ABAB", 9);
        CHECK.dueNotFound("[_`][^_`]", "_`", 5);
        CHECK.sentence("c and d being characters other than ]");
        duePattern("[]]", false);
        duePattern("[]-a]", false);
        duePattern("[^]a]", false);
        duePattern("[a]]", true);
        CHECK.dueFind("[a-]]", "a]", 0, 0, 2, 2);
        CHECK.dueFind("[a-]]", "-]", 0, 0, 2, 2);
        CHECK.dueNotFound("[a-]]", "b]", 3);
        CHECK.sentence("\\ is one like all others here");
        dueMembers("[\\]", "\\");
        dueMembers("[\\n]", "\\n");
        dueMembers("[\\1]", "\\1");
        dueMembers("[\\-^]", "\\]^");
        dueMembers("[Z-\\]", "Z[\\");
        CHECK.dueFind("[\\]]", "\\]", 0, 0, 2, 2);
        CHECK.dueNotFound("[\\]]", "]]", 3);
        CHECK.sentence("c not above d");
        duePattern("[a-b]", true);
        duePattern("[a-a]", true);
        duePattern("[b-a]", false);
        duePattern("[~-!]", false);
        duePattern("[ab-a]", false);
        duePattern("[a-bd-c]", false);
        duePattern("[^b-a]", false);
        duePattern("[a-\\]", false);
        dueMembers("[a-a]", "a");
        dueMembers("[a-c]", "abc");
        dueMembers("[^a-c]", but("abc"));
    }

    private static void items() {
        CHECK.sentence("it is c - d when - and another character than ] stand behind c");
        dueMembers("[a-]", "a-");
        dueMembers("[-a]", "-a");
        dueMembers("[-]", "-");
        dueMembers("[--]", "-");
        dueMembers("[---]", "-");
        dueMembers("[--/]", "-./");
        dueMembers("[+--]", "+,-");
        dueMembers("[a-c-e]", "abc-e");
        dueMembers("[a-c-]", "abc-");
        dueMembers("[^-]", but("-"));
        dueMembers("[^a-]", but("a-"));
        duePattern("[a--]", false);
        duePattern("[a-c--]", true);
        dueMembers("[a-c--]", "abc-");
        duePattern("[a-c-+-]", true);
        duePattern("[a-c--+]", false);
        CHECK.sentence("a ^ right behind [ is never an item");
        duePattern("[^]", false);
        dueMembers("[^^]", but("^"));
        dueMembers("[a^]", "a^");
        dueMembers("[^a^]", but("a^"));
        dueMembers("[^-a]", but("-a"));
        dueMembers("[^^-a]", but("^_`a"));
        dueMembers("[\\^]", "\\^");
    }

    private static void texts() {
        CHECK.sentence("\\ and a digit is an atom only as \\1 or \\2 in an END");
        for (char c = '0'; c <= '9'; c++) {
            boolean good = c == '1' || c == '2';
            String text = "\\" + c;
            for (String place : new String[] {"%", "a%", "%a", "(%)", "a|%", "(a)%", "%%"}) {
                duePiece(place.replace("%", text), false);
                dueRange(place.replace("%", text) + " q", false);
                dueRange("q " + place.replace("%", text), good);
            }
        }
        dueRange("q \\1\\3", false);
        dueRange("q \\3\\1", false);
        CHECK.sentence("and then without a quantifier");
        for (String q : QUANTIFIERS) {
            dueRange("q \\1" + q, false);
            dueRange("q \\2" + q, false);
            dueRange("q a\\2" + q + "b", false);
            dueRange("q (\\1" + q + ")", false);
            dueRange("q (\\1a)" + q, true);
            dueRange("q \\1a" + q, true);
        }
    }

    private static void canBeEmpty() {
        CHECK.sentence("What can be EMPTY can't have one of * + *? +?");
        String[] empty = {"^", "$", "(^)", "($)", "(^$)", "()", "(|)", "(a|)", "(|a)", "(a||b)", "(a*)", "(a?)",
            "(a*?)", "(a??)", "(a?b*)", "(a|b?)", "(a?|b)", "(b|^)", "((a?))", "((a)?)", "(()())", "((a|))",
            "(a|(b|)c?)", "(^?)", "(a?$)"};
        String[] more = {"a", ".", "[a]", "\\a", "(a)", "(a+)", "(a+?)", "(ab?)", "(a?b)", "(a|b)", "(^a)", "(a$)",
            "(a*b+c*)", "((a?)b)", "((a)+)", "((a?b)+)", "(a|(b|)c)", "(()a)", "([^a])", "(.)"};
        for (String q : REPEATING) {
            for (String atom : empty) {
                duePattern(atom + q, false);
                duePattern("x" + atom + q + "y", false);
            }
            for (String atom : more) {
                duePattern(atom + q, true);
            }
        }
        for (String q : ONCE) {
            for (String atom : empty) {
                duePattern(atom + q, true);
            }
        }
        CHECK.sentence("a group with a branch all of whose pieces can be EMPTY, not another group of the pattern");
        String[] apart = {"(a|)(b)*", "(|a)(b|c)+", "(a?)(b)+?", "()(b)*?", "(a|)b*", "^a*", "a?b*", "(^|a)(b)*",
            "((a|)b)(c)*", "|(a)*", "a||(b)+", "((|)a|b)*"};
        for (String pattern : apart) {
            duePattern(pattern, true);
        }
        CHECK.sentence("\\1, \\2 can be EMPTY");
        for (String q : REPEATING) {
            dueRange("q (\\1)" + q, false);
            dueRange("q (\\1\\2)" + q, false);
            dueRange("q (a|\\2)" + q, false);
            dueRange("q (\\1^)" + q, false);
            dueRange("q ((\\2)a?)" + q, false);
            dueRange("q (a\\1)" + q, true);
            dueRange("q (\\2a)" + q, true);
            dueRange("q ((\\2)a)" + q, true);
        }
        for (String q : ONCE) {
            dueRange("q (\\1)" + q, true);
            dueRange("q (a|\\2)" + q, true);
        }
    }

    private static void orderOfWays() {
        CHECK.sentence("An ALTERNATIVE of branches: tried in this order until one is a MATCH");
        CHECK.dueFind("a|ab", "ab", 0, 0, 1, 1);
        CHECK.dueFind("ab|a", "ab", 0, 0, 2, 2);
        CHECK.dueFind("ab|a", "ac", 0, 0, 1, 3);
        CHECK.dueFind("(a|ab)c", "abc", 0, 0, 3, 5, 0, 2);
        CHECK.dueFind("a|b|c", "c", 0, 0, 1, 3);
        CHECK.dueNotFound("a|b|c", "d", 6);
        CHECK.sentence("x*: the way on with x x* in its place, and if that fails the one without it");
        CHECK.dueFind("a*", "aab", 0, 0, 2, 3);
        CHECK.dueFind("a*", "b", 0, 0, 0, 1);
        CHECK.dueFind("a*", "aa", 0, 0, 2, 3);
        CHECK.dueFind("a*a", "aa", 0, 0, 2, 5);
        CHECK.dueFind("a*b", "aab", 0, 0, 3, 4);
        CHECK.sentence("x*?: the same two the other way round");
        CHECK.dueFind("a*?", "aab", 0, 0, 0, 0);
        CHECK.dueFind("a*?b", "aab", 0, 0, 3, 5);
        CHECK.dueFind("a*?$", "aa", 0, 0, 2, 5);
        CHECK.sentence("x+: x x*");
        CHECK.dueFind("a+", "aab", 0, 0, 2, 3);
        CHECK.dueFind("a+", "ba", 0, 1, 2, 3);
        CHECK.dueNotFound("a+", "b", 2);
        CHECK.dueFind("a+a", "aa", 0, 0, 2, 5);
        CHECK.dueNotFound("a+a", "a", 4);
        CHECK.sentence("x+?: x x*?");
        CHECK.dueFind("a+?", "aab", 0, 0, 1, 1);
        CHECK.dueFind("a+?b", "aab", 0, 0, 3, 4);
        CHECK.dueNotFound("a+?", "b", 2);
        CHECK.sentence("x?: the way with x, then the one without");
        CHECK.dueFind("a?", "aa", 0, 0, 1, 1);
        CHECK.dueFind("a?", "b", 0, 0, 0, 1);
        CHECK.dueFind("a?a", "a", 0, 0, 1, 3);
        CHECK.sentence("x??: the other way round");
        CHECK.dueFind("a??", "aa", 0, 0, 0, 0);
        CHECK.dueFind("a??b", "ab", 0, 0, 2, 3);
        CHECK.dueFind("(a??)(a?)", "aa", 0, 0, 1, 1, 0, 0, 0, 1);
    }

    private static void tries() {
        CHECK.sentence("a character, ., [ ] fit if they are at the place, and one goes on behind it");
        for (String atom : new String[] {"a", ".", "[a]", "[^b]", "\\a"}) {
            CHECK.dueFind(atom, "a", 0, 0, 1, 1);
            CHECK.dueNotFound(atom, "", 1);
            CHECK.dueFind(atom, "a", 1, NONE, NONE, 1);
            CHECK.dueNotFound(atom + atom, "a", 3);
        }
        CHECK.dueFind(".", " ", 0, 0, 1, 1);
        CHECK.dueFind("[^b]", " ", 0, 0, 1, 1);
        CHECK.sentence("^ fits at place 0, and one stays");
        CHECK.dueFind("^", "ab", 0, 0, 0, 1);
        CHECK.dueFind("^a", "ab", 0, 0, 1, 2);
        CHECK.dueFind("^^a", "ab", 0, 0, 1, 3);
        CHECK.dueFind("^", "ab", 1, NONE, NONE, 2);
        CHECK.dueNotFound("a^", "ab", 4);
        CHECK.dueNotFound("^b", "ab", 4);
        CHECK.dueFind("^", "", 0, 0, 0, 1);
        CHECK.sentence("$ at the line's length, and one stays");
        CHECK.dueFind("$", "ab", 0, 2, 2, 3);
        CHECK.dueFind("$", "ab", 2, 2, 2, 1);
        CHECK.dueFind("b$", "abb", 0, 2, 3, 5);
        CHECK.dueFind("b$$", "b", 0, 0, 1, 3);
        CHECK.dueNotFound("a$", "ab", 4);
        CHECK.dueNotFound("$a", "a", 3);
        CHECK.dueFind("^$", "", 0, 0, 0, 2);
        CHECK.dueNotFound("^$", "a", 3);
        CHECK.dueFind("a".repeat(4) + "$", "a".repeat(24), 0, 20, 24, 20 * 5 + 5);
    }

    private static void groups() {
        CHECK.sentence("its START and its END are the places before and behind it");
        CHECK.dueFind("(ab)c", "xabc", 0, 1, 4, 4, 1, 3, NONE, NONE, NONE, NONE);
        CHECK.dueFind("a()b", "ab", 0, 0, 2, 2, 1, 1);
        CHECK.dueFind("(.*)", "a".repeat(24), 0, 0, 24, 25, 0, 24);
        CHECK.dueFind("($)", "ab", 0, 2, 2, 3, 2, 2);
        CHECK.sentence("A group that was gone through several times has the START and END of the last time");
        CHECK.dueFind("(a|b)+", "abc", 0, 0, 2, 5, 1, 2);
        CHECK.dueFind("((a)|b)+", "ab", 0, 0, 2, 5, 1, 2, 0, 1);
        CHECK.dueFind("(a)*", "aa", 0, 0, 2, 3, 1, 2);
        CHECK.dueFind("(a)+?b", "aab", 0, 0, 3, 4, 1, 2);
        CHECK.dueFind("(a*b)*", "aabb", 0, 0, 4, 8, 3, 4);
        CHECK.sentence("on the way of the MATCH");
        CHECK.dueFind("(ab)*", "abax", 0, 0, 2, 4, 0, 2);
        CHECK.dueFind("(a)b|ac", "ac", 0, 0, 2, 4, NONE, NONE);
        CHECK.dueFind("((a)x|ay)", "ay", 0, 0, 2, 4, 0, 2, NONE, NONE);
        CHECK.dueFind("(a(b)?)+c?", "abac", 0, 0, 4, 6, 2, 3, 1, 2);
        CHECK.dueFind("(a+)(a)", "aaa", 0, 0, 3, 6, 0, 2, 2, 3);
        CHECK.dueFind("(a)b|.c", "xac", 0, 1, 3, 7, NONE, NONE);
        CHECK.sentence("one that was not has none");
        CHECK.dueFind("(a)?b", "b", 0, 0, 1, 2, NONE, NONE);
        CHECK.dueFind("(a)*b", "b", 0, 0, 1, 2, NONE, NONE);
        CHECK.dueFind("(a)??", "a", 0, 0, 0, 0, NONE, NONE);
        CHECK.dueFind("(a)|(b)|(c)", "b", 0, 0, 1, 2, NONE, NONE, 0, 1, NONE, NONE);
    }

    private static void searches() {
        CHECK.sentence("MATCHING at p, at p + 1, and so on up to the line's length, until there is a MATCH");
        CHECK.dueFind("a", "aba", 0, 0, 1, 1);
        CHECK.dueFind("a", "aba", 1, 2, 3, 2);
        CHECK.dueFind("a", "aba", 2, 2, 3, 1);
        CHECK.dueFind("a", "aba", 3, NONE, NONE, 1);
        CHECK.dueFind("|", "aba", 3, 3, 3, 0);
        CHECK.dueFind("$", "a".repeat(24), 0, 24, 24, 25);
        CHECK.dueNotFound("b", "a".repeat(24), 25);
        CHECK.sentence("a row of things is worked off from its front: many ways that wait, and without a STEP");
        CHECK.dueFind("((|)(|)a)*", "a".repeat(24), 0, 0, 24, 28, 23, 24, 23, 23, 23, 23);
        CHECK.dueFind("((|)(|)a??a??a??b)*", "b".repeat(24), 0, 0, 24, 40, 23, 24, 23, 23, 23, 23);
        CHECK.dueNotFound("(|||||)(||||)(||||)d", "", 150);
        CHECK.dueFind("(|||||)(||||)(||||)d", "ad", 0, 1, 2, 151, 1, 1, 1, 1, 1, 1);
        CHECK.dueFind("(|||||)(||||)(||||)$", "a", 0, 1, 1, 151);
    }

    /** Searches b, from a place on, in a line of so many a and then what is given. */
    private static ScopeLines lineOfA(int budget, int count, String then) {
        ScopeLines x = new ScopeLines(budget);
        Check.piece(x, "(b)", 0, 1);
        Check.put(x, "a".repeat(count) + then, 0);
        return x;
    }

    private static void budgets() {
        CHECK.sentence("If more than BUDGET would be made, the search ends and is OVER");
        for (int budget = 10; budget <= 20; budget++) {
            CHECK.dueFind(lineOfA(budget, budget - 2, ""), 1, 0, 0, NONE, NONE, budget - 1, NONE, NONE);
            CHECK.dueFind(lineOfA(budget, budget - 1, ""), 1, 0, 0, NONE, NONE, budget, NONE, NONE);
            CHECK.dueFind(lineOfA(budget, budget, ""), 1, 0, 0, OVER, OVER, budget, OVER, OVER);
            CHECK.dueFind(lineOfA(budget, budget + 1, ""), 1, 0, 0, OVER, OVER, budget, OVER, OVER);
            CHECK.dueFind(lineOfA(budget, budget, ""), 1, 0, 1, NONE, NONE, budget, NONE, NONE);
            CHECK.dueFind(lineOfA(budget, budget - 1, "b"), 1, 0, 0,
                    budget - 1, budget, budget, budget - 1, budget, NONE);
            CHECK.dueFind(lineOfA(budget, budget, "b"), 1, 0, 0, OVER, OVER, budget, OVER, OVER, OVER);
        }
        ScopeLines x = new ScopeLines(300);
        Check.piece(x, "(||||||||||)d|ef", 0, 1);
        Check.put(x, "a".repeat(24), 0);
        CHECK.dueFind(x, 1, 0, 0, NONE, NONE, 300, NONE);
        Check.put(x, "a".repeat(11) + "e" + "a".repeat(12), 0);
        CHECK.dueFind(x, 1, 0, 0, OVER, OVER, 300, OVER);
        CHECK.dueFind(x, 1, 0, 1, NONE, NONE, 289, NONE);
        CHECK.sentence("all STEPS are counted together");
        x = new ScopeLines(10);
        Check.piece(x, "(a|a|a|a|a)", 0, 1);
        Check.put(x, "b", 0);
        CHECK.dueFind(x, 1, 0, 0, NONE, NONE, 10, NONE);
        Check.put(x, "bb", 0);
        CHECK.dueFind(x, 1, 0, 0, OVER, OVER, 10, OVER);
        Check.put(x, "bba", 0);
        CHECK.dueFind(x, 1, 0, 0, OVER, OVER, 10, OVER);
        CHECK.dueFind(x, 1, 0, 1, 2, 3, 6, 2, 3);
        CHECK.sentence("BUDGET STEPS are enough for ways that need no more of them");
        x = new ScopeLines(10);
        Check.piece(x, "a*b|", 0, 1);
        Check.put(x, "aaaa", 0);
        CHECK.dueFind(x, 1, 0, 0, 0, 0, 10);
        Check.put(x, "aaaaa", 0);
        CHECK.dueFind(x, 1, 0, 0, OVER, OVER, 10);
        CHECK.dueFind(x, 1, 0, 1, 1, 1, 10);
    }

    /** Whether a line is MARKED within a range whose first line is given; its only candidate is the END. */
    private static boolean isOver(String both, String first, String second) {
        ScopeLines x = new ScopeLines(10);
        CHECK.due("range " + both, Check.range(x, both, 0, 1), 1);
        Check.put(x, first, 0);
        CHECK.due("open behind " + first, x.state(0, -1), 1);
        Check.put(x, second, 1);
        return x.marked(1);
    }

    private static void textSteps() {
        CHECK.sentence("\\1 and \\2 are tried as the characters of a text, one after the other");
        for (String t : new String[] {"1", "2"}) {
            String both = "<(a*),(a*), \\" + t + ";";
            CHECK.due("9 STEPS", isOver(both, "<a,a,", "aaaa"), false);
            CHECK.due("11 STEPS", isOver(both, "<a,a,", "aaaaa"), true);
            CHECK.due("9 STEPS with two", isOver(both, "<aa,aa,", "aaa"), false);
            CHECK.due("12 STEPS with two", isOver(both, "<aa,aa,", "aaaa"), true);
            CHECK.due("10 STEPS, none fits", isOver(both, "<aa,aa,", "c".repeat(9)), false);
            CHECK.due("11 STEPS, none fits", isOver(both, "<aa,aa,", "c".repeat(10)), true);
        }
        CHECK.due("text 1, not 2", isOver("<(a*),(a*), \\1;", "<a,aaaa,", "aaaa"), false);
        CHECK.due("text 2, not 1", isOver("<(a*),(a*), \\2;", "<aaaa,a,", "aaaa"), false);
        CHECK.sentence("without a STEP, if it has none");
        CHECK.due("10 STEPS", isOver("<(a*)(b)? \\1\\2;", "<", "c".repeat(9)), false);
        CHECK.due("11 STEPS", isOver("<(a*)(b)? \\1\\2;", "<", "c".repeat(10)), true);
        CHECK.due("10 STEPS, no group", isOver("< \\1\\2;", "<", "c".repeat(9)), false);
        CHECK.sentence("\\1 and \\2 fit as the whole text, and one goes on behind it");
        ScopeLines x = new ScopeLines(300);
        Check.range(x, "<(..)(.*) \\1\\2;", 0, 1);
        Check.put(x, "<abc", 0);
        for (String near : new String[] {"ab;", "abc", "bc;", "acb;", "cab;", "ABC;", "ab c;", "abc"}) {
            Check.put(x, near, 1);
            CHECK.due("open behind " + near, x.state(1, -1), 1);
        }
        for (String last : new String[] {"a", "ab", "abc"}) {
            Check.put(x, "x".repeat(24 - last.length()) + last, 1);
            CHECK.due("open behind " + last + " at the line's end", x.state(1, -1), 1);
        }
        Check.put(x, "abc;", 1);
        for (String left : new String[] {"", "a", "ab", "abc"}) {
            Check.put(x, left, 1);
            CHECK.due("open behind what is left of abc;", x.state(1, -1), 1);
        }
        Check.put(x, "x".repeat(20) + "abc;", 1);
        CHECK.dueState(x, 1, "");
        Check.put(x, "ababc;d", 1);
        CHECK.dueTokens(x, 1, "0:1/1 2:1/1 6:0/0");
        CHECK.dueState(x, 1, "");
    }

    public static void main(String[] args) {
        lengths();
        blanks();
        characters();
        escapes();
        emptyBranches();
        quantifiers();
        parentheses();
        sets();
        items();
        texts();
        canBeEmpty();
        orderOfWays();
        tries();
        groups();
        searches();
        budgets();
        textSteps();
        CHECK.finish("PatternEdgesTest");
    }
}
