/**
 * The sentences of the document's "Terms" on rules, states, tokens, the document and colours that name
 * an edge: both sides of each.
 */
public final class TokenEdgesTest {
    private static final int NONE = ScopeLines.NONE;
    private static final int FULL = ScopeLines.FULL;
    private static final int ILL = ScopeLines.ILL;

    private static final Check CHECK = new Check();

    private static ScopeLines with(int budget, String... rules) {
        ScopeLines x = new ScopeLines(budget);
        addRules(x, rules);
        return x;
    }

    /** Each rule is "home scope draft"; a draft with a blank makes a RANGE. */
    private static void addRules(ScopeLines x, String... rules) {
        for (String rule : rules) {
            String[] parts = rule.split(" ", 3);
            int home = Integer.parseInt(parts[0]);
            int scope = Integer.parseInt(parts[1]);
            int number = parts[2].indexOf(' ') < 0 ? Check.piece(x, parts[2], home, scope)
                    : Check.range(x, parts[2], home, scope);
            CHECK.due("rule " + rule, number > 0, true);
        }
    }

    private static void putAll(ScopeLines x, String... lines) {
        for (int k = 0; k < lines.length; k++) {
            CHECK.due("put " + lines[k], Check.put(x, lines[k], k) >= 1, true);
        }
    }

    private static void dueLine(ScopeLines x, String line, String tokens, String state) {
        Check.put(x, line, 0);
        CHECK.dueTokens(x, 0, tokens);
        CHECK.dueState(x, 0, state);
    }

    private static void numbers() {
        CHECK.sentence("RULES are numbered 1 .. 9 as they are made");
        ScopeLines x = new ScopeLines(300);
        Check.put(x, "a", 0);
        for (int r = 1; r <= 9; r++) {
            CHECK.due("find before rule " + r, x.find(r, 0, 0, 2), NONE);
            CHECK.due("refused", Check.piece(x, "(", 0, 1), ILL);
            CHECK.due("refused", Check.range(x, "a", 0, 1), ILL);
            CHECK.due("refused", x.range(0, 100), NONE);
            CHECK.due("rule " + r, r % 2 == 0 ? Check.piece(x, "a", 0, 1) : Check.range(x, "b c", 0, 1), r);
            CHECK.due("find with rule " + r, x.find(r, 0, 0, 0), r % 2 == 0 ? 0 : NONE);
        }
        CHECK.due("rule 10", Check.piece(x, "a", 0, 1), FULL);
        CHECK.due("rule 10", Check.range(x, "a b", 0, 1), FULL);
        CHECK.due("find with rule 10", x.find(10, 0, 0, 2), NONE);
        CHECK.due("find with rule 0", x.find(0, 0, 0, 2), NONE);
        CHECK.sentence("0 is the OUTER range, which is always open and has no END");
        x = with(300, "0 4 a");
        dueLine(x, "ba", "0:0/0 1:4/1", "");
        CHECK.due("no range is open", x.state(0, -1), 0);
        CHECK.due("nor at level 0", x.state(0, 0), NONE);
        CHECK.sentence("each has a SCOPE 1 .. 99");
        x = with(300, "0 1 a", "0 99 b", "0 1 < >", "0 99 { }");
        dueLine(x, "ab<>{}", "0:1/1 1:99/1 2:1/1 3:1/1 4:99/1 5:99/1", "");
    }

    private static void candidateOrder() {
        CHECK.sentence("The CANDIDATES in a range are its END, then the rules whose HOME it is");
        ScopeLines x = with(300, "0 1 < >", "1 5 >");
        dueLine(x, "<>", "0:1/1 1:1/1", "");
        x = with(300, "0 1 < >", "1 5 b>");
        dueLine(x, "<b>", "0:1/1 1:5/2", "1(0,0)");
        x = with(300, "0 1 < >", "1 5 > ;");
        dueLine(x, "<>", "0:1/1 1:1/1", "");
        CHECK.sentence("not in the OUTER one");
        dueLine(x, "a>", "0:0/0", "");
        CHECK.sentence("by their numbers");
        x = with(300, "0 1 a", "0 2 ab", "0 3 b");
        dueLine(x, "ab", "0:1/1 1:3/1", "");
        x = with(300, "0 2 ab", "0 1 a", "0 3 b");
        dueLine(x, "ab", "0:2/1", "");
        x = with(300, "0 1 a", "0 2 a b");
        dueLine(x, "ab", "0:1/1 1:0/0", "");
        x = with(300, "0 2 a b", "0 1 a");
        dueLine(x, "ac", "0:2/1 1:2/1", "1(0,0)");
        CHECK.sentence("then, if it INCLUDES another range, the rules whose HOME that one is");
        x = with(300, "0 1 < >", "0 5 a");
        dueLine(x, "<a", "0:1/1 1:1/1", "1(0,0)");
        CHECK.due("include(1, 0)", x.include(1, 0), true);
        dueLine(x, "<a", "0:1/1 1:5/2", "1(0,0)");
        addRules(x, "1 6 a");
        dueLine(x, "<a", "0:1/1 1:6/2", "1(0,0)");
        addRules(x, "0 7 b", "0 8 b");
        dueLine(x, "<b", "0:1/1 1:7/2", "1(0,0)");
        dueLine(x, "<<>", "0:1/1 1:1/2 2:1/2", "1(0,0)");
        CHECK.sentence("of an included range the rules alone, not its END nor what it includes");
        x = with(300, "0 1 < >", "0 2 { }", "0 3 ' ;", "2 4 a", "3 5 b");
        x.include(1, 2);
        x.include(2, 3);
        dueLine(x, "<ab}", "0:1/1 1:4/2 2:1/1", "1(0,0)");
        dueLine(x, "{ab}", "0:2/1 1:4/2 2:5/2 3:2/1", "");
        x.include(0, 2);
        dueLine(x, "a}b", "0:4/1 1:0/0", "");
    }

    private static void twice() {
        CHECK.sentence("A rule can be there twice");
        ScopeLines x = with(10, "0 1 < >", "1 2 b", "0 3 c");
        CHECK.due("include(1, 1)", x.include(1, 1), true);
        dueLine(x, "<bb>", "0:1/1 1:2/2 2:2/2 3:1/1", "");
        CHECK.due("include(0, 0)", x.include(0, 0), true);
        dueLine(x, "<bb>", "0:1/1 1:2/2 2:2/2 3:1/1", "");
        Check.put(x, "<", 0);
        Check.put(x, "aaaaaaaaa", 1);
        CHECK.due("ten STEPS, twice", x.marked(1), false);
        CHECK.dueTokens(x, 1, "0:1/1");
        Check.put(x, "aaaaaaaaaa", 1);
        CHECK.due("eleven STEPS", x.marked(1), true);
        dueLine(x, "aaaaaaaaa", "0:0/0", "");
        CHECK.due("ten STEPS, twice", x.marked(0), false);
        x = with(300, "0 1 a", "0 2 b", "0 3 c", "0 4 d", "0 5 e", "0 6 f", "0 7 g", "0 8 h", "0 9 i");
        CHECK.due("nine rules twice", x.include(0, 0), true);
        dueLine(x, "ixa", "0:9/1 1:0/0 2:1/1", "");
        x = with(300, "0 9 < >", "1 2 b", "1 3 c", "1 4 d", "1 5 e", "1 6 f", "1 7 g", "1 8 h", "1 1 i");
        CHECK.due("eight rules twice and an END", x.include(1, 1), true);
        dueLine(x, "<xib>", "0:9/1 1:9/1 2:1/2 3:2/2 4:9/1", "");
    }

    private static void states() {
        CHECK.sentence("A STATE is a row of at most 5 open ranges, the innermost last");
        ScopeLines x = with(300, "0 1 a ;", "1 2 b ;", "2 3 c ;", "3 4 d ;", "4 5 e ;", "5 6 f ;");
        dueLine(x, "abcd", "0:1/1 1:2/2 2:3/3 3:4/4", "1(0,0) 2(0,0) 3(0,0) 4(0,0)");
        dueLine(x, "abcde", "0:1/1 1:2/2 2:3/3 3:4/4 4:5/5", "1(0,0) 2(0,0) 3(0,0) 4(0,0) 5(0,0)");
        dueLine(x, "abcdef", "0:1/1 1:2/2 2:3/3 3:4/4 4:5/5 5:5/5", "1(0,0) 2(0,0) 3(0,0) 4(0,0) 5(0,0)");
        CHECK.sentence("its texts being what groups 1 and 2 of this match enclose (nothing, if there is none)");
        x = with(300, "0 1 <(a*)(b*)(c*) ;", "1 2 {(a)?(b)? \\1\\2;", "1 3 ' ;", "1 4 /((a)b) ;");
        dueLine(x, "<aabbbc", "0:1/1", "1(2,3)");
        dueLine(x, "<c{b", "0:1/1 2:2/2", "1(0,0) 2(0,1)");
        dueLine(x, "<a{a", "0:1/1 2:2/2", "1(1,0) 2(1,0)");
        dueLine(x, "<bb'", "0:1/1 3:3/2", "1(0,2) 3(0,0)");
        dueLine(x, "</ab", "0:1/1 1:4/2", "1(0,0) 4(2,1)");
        dueLine(x, "<" + "a".repeat(23), "0:1/1", "1(23,0)");
        dueLine(x, "<aab'", "0:1/1 4:3/2", "1(2,1) 3(0,0)");
        dueLine(x, "<ab{ab;ab;{b", "0:1/1 3:2/2 6:2/2 7:2/2 10:2/2", "1(1,1) 2(0,1)");
        x = with(300, "0 1 (.)(.)?< \\2\\1;");
        dueLine(x, "ab<ab;", "0:1/1 3:1/1", "1(1,1)");
        dueLine(x, "ab<ba;", "0:1/1 3:1/1", "");
        dueLine(x, "a<ba;", "0:1/1 2:1/1 3:1/1", "");
        CHECK.sentence("At first no range is open");
        dueLine(x, "", "", "");
        dueLine(x, ";", "0:0/0", "");
    }

    private static void marking() {
        CHECK.sentence("If a search is OVER, the line is MARKED");
        ScopeLines x = with(10, "0 1 a", "0 2 b");
        dueLine(x, "acccccccc", "0:1/1 1:0/0", "");
        CHECK.due("nine characters", x.marked(0), false);
        dueLine(x, "acccccccbc", "0:1/1 1:0/0 8:2/1 9:0/0", "");
        CHECK.due("b by nine STEPS", x.marked(0), false);
        dueLine(x, "cccccccccb", "0:0/0", "");
        CHECK.due("no a by eleven STEPS", x.marked(0), true);
        dueLine(x, "accccccccc", "0:0/0", "");
        CHECK.due("no b by eleven STEPS, a at place 0", x.marked(0), true);
        x = with(10, "0 1 a|(||||||||)d");
        dueLine(x, "aa", "0:1/1 1:1/1", "");
        CHECK.due("ten STEPS at the line's end", x.marked(0), false);
        x = with(10, "0 1 a|(|||||||||)d");
        dueLine(x, "aa", "0:0/0", "");
        CHECK.due("eleven STEPS at the line's end", x.marked(0), true);
        x = with(10, "0 1 <|b ;");
        dueLine(x, "<bbbbbbbbb", "0:1/1 1:1/1", "1(0,0)");
        CHECK.due("ten STEPS within the range", x.marked(0), false);
        dueLine(x, "<bbbbbbbbbb", "0:0/0", "");
        CHECK.due("eleven STEPS within the range", x.marked(0), true);
        CHECK.sentence("it has one token, of its whole length, with the scopes of the state it was begun with");
        x = with(10, "0 1 <(.) ;", "1 2 {(.)(.) ;");
        putAll(x, "<a{bc", ";{de", "", "");
        CHECK.dueTokens(x, 1, "0:2/2 1:2/2");
        CHECK.dueState(x, 1, "1(1,0) 2(1,1)");
        Check.put(x, "a;;<a{bcddddddddddd", 1);
        CHECK.due("marked", x.marked(1), true);
        CHECK.dueTokens(x, 1, "0:2/2");
        CHECK.due("its first scope is there, too", x.token(1, 0, 1), 2);
        CHECK.sentence("and that is its end state");
        CHECK.dueState(x, 1, "1(1,0) 2(1,1)");
        CHECK.due("another text, which the MARKED line hands on", Check.put(x, "<a{bd", 0), 4);
        CHECK.dueState(x, 1, "1(1,0) 2(1,1)");
        Check.put(x, "", 0);
        CHECK.due("marked from no open range", x.marked(1), true);
        CHECK.dueTokens(x, 1, "0:0/0");
        CHECK.dueState(x, 1, "");
        Check.put(x, "a", 1);
        CHECK.due("not any more", x.marked(1), false);
        CHECK.sentence("A line of no characters has no token, even if it is MARKED");
        x = with(10, "0 1 (|||||||||)d");
        dueLine(x, "", "", "");
        CHECK.due("ten STEPS", x.marked(0), false);
        addRules(x, "0 1 (||||||||||)d");
        CHECK.due("eleven STEPS", x.marked(0), true);
        CHECK.due("no token", x.tokens(0), 0);
        CHECK.due("no token 0", x.token(0, 0, 0), NONE);
        CHECK.due("no characters", x.length(0), 0);
    }

    private static void firstMatch() {
        CHECK.sentence("at place q, at first 0");
        ScopeLines x = with(300, "0 1 ^a");
        dueLine(x, "aa", "0:1/1 1:0/0", "");
        dueLine(x, "ba", "0:0/0", "");
        CHECK.sentence("If there is no match, the rest from q on is a token, and that is all");
        dueLine(x, "b".repeat(24), "0:0/0", "");
        dueLine(new ScopeLines(10), "b".repeat(24), "0:0/0", "");
        dueLine(x, "a", "0:1/1", "");
        CHECK.sentence("Otherwise the match that begins first, of several the one of the earlier CANDIDATE");
        x = with(300, "0 1 ba", "0 2 a", "0 3 abb|ac");
        dueLine(x, "aba", "0:2/1 1:1/1", "");
        dueLine(x, "ba", "0:1/1", "");
        dueLine(x, "ac", "0:2/1 1:0/0", "");
        dueLine(x, "cba", "0:0/0 1:1/1", "");
        x = with(300, "0 3 abb|ac", "0 1 ba", "0 2 a");
        dueLine(x, "acabb", "0:3/1 2:3/1", "");
        CHECK.sentence("A token of no characters is none");
        x = with(300, "0 1 < >", "0 2 a");
        dueLine(x, "<>a<>", "0:1/1 1:1/1 2:2/1 3:1/1 4:1/1", "");
        dueLine(x, "<>", "0:1/1 1:1/1", "");
        dueLine(x, "b<b>b", "0:0/0 1:1/1 2:1/1 3:1/1 4:0/0", "");
        dueLine(x, "a".repeat(24), "0:2/1 1:2/1 2:2/1 3:2/1 4:2/1 5:2/1 6:2/1 7:2/1 8:2/1 9:2/1 10:2/1 11:2/1 "
                + "12:2/1 13:2/1 14:2/1 15:2/1 16:2/1 17:2/1 18:2/1 19:2/1 20:2/1 21:2/1 22:2/1 23:2/1", "");
    }

    private static void noCharacters() {
        CHECK.sentence("If e is q and it is not an END: the rest from q on is a token, and that is all");
        ScopeLines x = with(300, "0 1 x*");
        dueLine(x, "aax", "0:0/0", "");
        dueLine(x, "xax", "0:1/1 1:0/0", "");
        dueLine(x, "xx", "0:1/1", "");
        x = with(300, "0 1 x* ;");
        dueLine(x, "axa", "0:0/0", "");
        dueLine(x, "xa", "0:1/1 1:1/1", "1(0,0)");
        dueLine(x, "", "", "");
        x = with(300, "0 1 x*", "0 2 a");
        dueLine(x, "aa", "0:0/0", "");
        x = with(300, "0 2 a", "0 1 x*");
        dueLine(x, "aa", "0:2/1 1:2/1", "");
        dueLine(x, "aba", "0:2/1 1:0/0", "");
        CHECK.sentence("a match of no characters that begins behind q is taken");
        x = with(300, "0 1 $ ;", "0 2 a");
        dueLine(x, "b", "0:0/0", "1(0,0)");
        dueLine(x, "", "", "");
        dueLine(x, "a", "0:2/1", "");
        dueLine(x, "ab", "0:2/1 1:0/0", "1(0,0)");
        x = with(300, "0 1 $", "0 2 a");
        dueLine(x, "b", "0:0/0", "");
        dueLine(x, "ba", "0:0/0 1:2/1", "");
        x = with(300, "0 1 ()$(); ;|$", "0 3 ($) ;");
        dueLine(x, "b", "0:0/0", "2(0,0)");
        CHECK.sentence("an END of no characters is taken, at q, too");
        x = with(300, "0 1 < |");
        dueLine(x, "<<a", "0:1/1 1:1/1 2:0/0", "");
        x = with(300, "0 1 < $");
        dueLine(x, "<", "0:1/1", "");
        dueLine(x, "<a", "0:1/1 1:1/1", "");
        x = with(300, "0 1 < ^", "1 2 a");
        putAll(x, "<a", "a<a");
        CHECK.dueState(x, 0, "1(0,0)");
        CHECK.dueTokens(x, 1, "0:0/0 1:1/1 2:2/2");
        CHECK.dueState(x, 1, "1(0,0)");
        Check.put(x, "", 1);
        CHECK.dueState(x, 1, "");
    }

    private static void fiveOpen() {
        CHECK.sentence("it is a BEGIN and 5 ranges are open: the rest from q on is a token, and that is all");
        ScopeLines x = with(300, "0 1 < >", "0 2 b");
        x.include(1, 0);
        String four = "0:1/1 1:1/2 2:1/3 3:1/4";
        String five = four + " 4:1/5";
        String fourOpen = "1(0,0) 1(0,0) 1(0,0) 1(0,0)";
        String fiveOpen = fourOpen + " 1(0,0)";
        dueLine(x, "<<<<", four, fourOpen);
        dueLine(x, "<<<<<", five, fiveOpen);
        dueLine(x, "<<<<<<", five + " 5:1/5", fiveOpen);
        dueLine(x, "<<<<<a<b>>", five + " 5:1/5", fiveOpen);
        dueLine(x, "<<<<<b<b>>", five + " 5:2/6 6:1/5", fiveOpen);
        dueLine(x, "<<<<<b>b<b", five + " 5:2/6 6:1/5 7:2/5 8:1/5 9:2/6", fiveOpen);
        dueLine(x, "<<<<<>", five + " 5:1/5", fourOpen);
        dueLine(x, "<<<<<", five, fiveOpen);
        Check.put(x, "a<>", 1);
        CHECK.dueTokens(x, 1, "0:1/5");
        CHECK.dueState(x, 1, fiveOpen);
        Check.put(x, "b>>>>>>", 1);
        CHECK.dueTokens(x, 1, "0:2/6 1:1/5 2:1/4 3:1/3 4:1/2 5:1/1 6:0/0");
        CHECK.dueState(x, 1, "");
        x = with(300, "0 1 < $");
        x.include(1, 0);
        dueLine(x, "<<<<<", five, "");
        dueLine(x, "<<<<<<", five + " 5:1/5", fiveOpen);
        dueLine(x, "<<<<<a", five + " 5:1/5", "");
        x = with(300, "0 1 < |>", "0 2 a");
        x.include(1, 0);
        dueLine(x, "<".repeat(24), "0:1/1 1:1/1 2:1/1 3:1/1 4:1/1 5:1/1 6:1/1 7:1/1 8:1/1 9:1/1 10:1/1 11:1/1 "
                + "12:1/1 13:1/1 14:1/1 15:1/1 16:1/1 17:1/1 18:1/1 19:1/1 20:1/1 21:1/1 22:1/1 23:1/1", "");
    }

    /** Five ranges from the line before it end at q, and each place opens one that ends at q. */
    private static void mostMatches() {
        CHECK.sentence("Then q is e, and it goes on so");
        ScopeLines x = with(300, "0 1 < ^", "0 2 [a-z] |");
        x.include(1, 0);
        putAll(x, "<<<<<", "abcdefghijklmnopqrstuvwx");
        CHECK.due("five are open", x.state(0, -1), 5);
        CHECK.due("24 tokens", x.tokens(1), 24);
        for (int t = 0; t < 24; t++) {
            CHECK.due("scope of token " + t, x.token(1, t, 2), 2);
            CHECK.due("only one", x.token(1, t, 1), 1);
        }
        CHECK.dueState(x, 1, "");
        x = with(300, "0 1 < ^", "0 2 [a-z] |", "0 3 x;");
        x.include(1, 0);
        putAll(x, "<<<<<", "abcdefghijklmnopqrstuvx<");
        CHECK.due("24 tokens", x.tokens(1), 24);
        CHECK.dueState(x, 1, "1(0,0)");
        x = with(25, "0 1 < ^", "1 1 < ^", "0 2 [a-z<]|(||||)(||||)1 |");
        x.include(2, 1);
        putAll(x, "<<<<<", "abcdefghijklmnopqrstuvwx");
        CHECK.due("OVER behind the last match", x.marked(1), true);
        CHECK.dueTokens(x, 1, "0:1/5");
    }

    private static void scopesOfTokens() {
        CHECK.sentence("The SCOPES of a token are the SCOPEs of the ranges that are open then, outermost first");
        ScopeLines x = with(300, "0 7 < >", "1 8 { }", "2 9 a");
        for (int scope = 7; scope <= 9; scope++) {
            x.theme(scope, scope - 1, scope);
        }
        dueLine(x, "b<b{ba}b>b", "0:0/0 1:7/1 2:7/1 3:8/2 4:8/2 5:9/3 6:8/2 7:7/1 8:7/1 9:0/0", "");
        int[] colours = {0, 0, 0, 8, 8, 9, 8, 0, 0, 0};
        for (int t = 0; t < colours.length; t++) {
            CHECK.due("colour of token " + t, x.token(0, t, 3), colours[t]);
        }
    }

    private static ScopeLines document(String... lines) {
        ScopeLines x = with(300, "0 1 <(.)(.)? ;", "0 2 { ;", "0 3 / ;");
        putAll(x, lines);
        return x;
    }

    private static void putting() {
        CHECK.sentence("THE DOCUMENT has at most 6 lines");
        ScopeLines x = document("<ab", "x", "y", ";", "z", "w");
        CHECK.due("six", x.lines(), 6);
        CHECK.due("a seventh", Check.put(x, "v", 6), FULL);
        CHECK.due("the sixth anew", Check.put(x, "v", 5), 1);
        CHECK.sentence("tokenized until one has been that has the same end state as it had before");
        String[] puts = {"<ab", "q<ab", "<ac", "<bc", "<b", "<bd", "{", "/", "a/", "<cd", "", "<ab"};
        int[] done = {1, 1, 4, 4, 4, 4, 4, 4, 1, 4, 4, 4};
        for (int i = 0; i < puts.length; i++) {
            int passes = x.passes();
            CHECK.due("put(0) of " + puts[i], Check.put(x, puts[i], 0), done[i]);
            CHECK.due("passes", x.passes(), passes + done[i]);
            CHECK.due("the state of line 2", Check.stateOf(x, 2), Check.stateOf(x, 0));
            CHECK.dueState(x, 3, "");
        }
        CHECK.sentence("A line that is put in the place of another one had that one's");
        CHECK.due("put(1) in an open range", Check.put(x, "xx", 1), 1);
        CHECK.due("put(1) that ends it", Check.put(x, ";", 1), 3);
        CHECK.due("put(1) that ends and opens it", Check.put(x, ";<ab", 1), 3);
        CHECK.due("put(1) that leaves it open", Check.put(x, "", 1), 1);
        CHECK.due("put(3) that leaves it open", Check.put(x, "x", 3), 3);
        CHECK.dueState(x, 5, "1(1,1)");
        CHECK.sentence("or there are no more");
        CHECK.due("put(0)", Check.put(x, "a", 0), 6);
        CHECK.dueState(x, 5, "");
        CHECK.due("put(5)", Check.put(x, "<", 5), 1);
        CHECK.due("put(5)", Check.put(x, "<cc", 5), 1);
        CHECK.sentence("a new one behind the others had none");
        x = document("<ab");
        CHECK.due("put(1)", Check.put(x, "x", 1), 1);
        x.drop(1);
        CHECK.due("put(1)", Check.put(x, "x", 1), 1);
        CHECK.dueState(x, 1, "1(1,1)");
        CHECK.dueTokens(x, 1, "0:1/1");
        CHECK.sentence("the first one from no open range");
        x = document(";", "a");
        CHECK.dueTokens(x, 0, "0:0/0");
    }

    private static void dropping() {
        CHECK.sentence("one that moves up by drop() had its own");
        ScopeLines x = document("<ab", "x", ";", "y", "z");
        CHECK.due("; has its own", x.drop(1), 1);
        CHECK.due("four", x.lines(), 4);
        CHECK.dueState(x, 1, "");
        x = document("<ab", "x", "y", ";", "z", "w");
        CHECK.due("x, y, ;", x.drop(0), 3);
        CHECK.dueTokens(x, 2, "0:0/0");
        x = document("x", "<ab", "y", ";", "<ab", "w");
        CHECK.due("y, ;", x.drop(1), 2);
        CHECK.due("<ab has its own", x.drop(2), 1);
        CHECK.dueState(x, 2, "1(1,1)");
        x = document("<ab", ";", "y", "z", "w", "v");
        CHECK.due("all behind it", x.drop(1), 4);
        CHECK.dueState(x, 4, "1(1,1)");
        CHECK.due("the last one", x.drop(4), 0);
        CHECK.due("all that are left", x.drop(0), 3);
        CHECK.dueState(x, 2, "");
        CHECK.due("y", x.drop(0), 1);
        CHECK.due("z", x.drop(0), 1);
        CHECK.due("w", x.drop(0), 0);
        CHECK.due("none", x.drop(0), NONE);
        CHECK.due("no lines", x.lines(), 0);
        CHECK.due("passes", x.passes(), 6 + 4 + 0 + 3 + 1 + 1 + 0);
        x = document("<ab", "<ac;<ab", "x");
        CHECK.due("the same end state without it", x.drop(1), 1);
        x = document("<ab", ";<ac", "x", ";");
        CHECK.due("another text without it", x.drop(1), 2);
        x = document("<ab", ";{", "x", ";");
        CHECK.due("another range without it", x.drop(1), 2);
        x = document("<ab", ";<bb", "x", ";");
        CHECK.due("another text 1 without it", x.drop(1), 2);
        x = document("/", ";{", "x", ";");
        CHECK.due("another range of the same texts without it", x.drop(1), 2);
    }

    private static void allLines() {
        CHECK.sentence("When a rule is made or a range begins to include another one, all lines are");
        ScopeLines x = new ScopeLines(300);
        CHECK.due("rule 1", Check.range(x, "< >", 0, 1), 1);
        CHECK.due("no lines", x.passes(), 0);
        CHECK.due("include", x.include(1, 0), true);
        CHECK.due("no lines", x.passes(), 0);
        putAll(x, "a", "b", "c", "d", "e", "f");
        CHECK.due("six puts", x.passes(), 6);
        CHECK.due("a piece that is nowhere", Check.piece(x, "x", 0, 2), 2);
        CHECK.due("six more", x.passes(), 12);
        CHECK.due("a range that is nowhere", Check.range(x, "y z", 1, 3), 3);
        CHECK.due("six more", x.passes(), 18);
        CHECK.due("include", x.include(1, 3), true);
        CHECK.due("six more", x.passes(), 24);
        CHECK.due("it does already", x.include(1, 3), false);
        CHECK.due("none", x.passes(), 24);
        CHECK.due("ILL", Check.piece(x, "*", 0, 2), ILL);
        CHECK.due("NONE", Check.range(x, "a b", 2, 2), NONE);
        CHECK.due("none", x.passes(), 24);
        x.drop(5);
        CHECK.due("a piece of the first line", Check.piece(x, "a", 0, 4), 4);
        CHECK.due("five more", x.passes(), 29);
        CHECK.dueTokens(x, 0, "0:4/1");
        CHECK.due("a range over all lines", Check.range(x, "b g", 0, 5), 5);
        CHECK.due("five more", x.passes(), 34);
        CHECK.dueState(x, 4, "5(0,0)");
    }

    private static ScopeLines coloured(int... entries) {
        ScopeLines x = with(300, "0 1 < >", "1 2 { }", "2 3 a", "0 3 b", "2 1 c");
        Check.put(x, "b<{ac", 0);
        for (int i = 0; i < entries.length; i += 3) {
            CHECK.due("theme", x.theme(entries[i], entries[i + 1], entries[i + 2]), true);
        }
        return x;
    }

    /** The tokens have the scopes 3; 1; 1 2; 1 2 3; 1 2 1. */
    private static void dueColours(int[] entries, int... want) {
        ScopeLines x = coloured(entries);
        for (int t = 0; t < want.length; t++) {
            CHECK.due("colour of token " + t + " with " + java.util.Arrays.toString(entries),
                    x.token(0, t, 3), want[t]);
        }
    }

    private static void colours() {
        CHECK.sentence("0 if there is none for any of them");
        dueColours(new int[] {}, 0, 0, 0, 0, 0);
        dueColours(new int[] {4, 0, 9}, 0, 0, 0, 0, 0);
        dueColours(new int[] {3, 0, 9}, 9, 0, 0, 9, 0);
        CHECK.sentence("the last one, then the one before it, and so on");
        dueColours(new int[] {1, 0, 9}, 0, 9, 9, 9, 9);
        dueColours(new int[] {1, 0, 9, 2, 0, 8}, 0, 9, 8, 8, 9);
        dueColours(new int[] {3, 0, 7, 2, 0, 8, 1, 0, 9}, 7, 9, 8, 7, 9);
        dueColours(new int[] {3, 0, 7, 1, 0, 9, 2, 1, 8}, 7, 9, 8, 7, 9);
        CHECK.sentence("which must be one of the SCOPES before it (anywhere ahead of it)");
        dueColours(new int[] {3, 2, 9}, 0, 0, 0, 9, 0);
        dueColours(new int[] {3, 1, 9}, 0, 0, 0, 9, 0);
        dueColours(new int[] {3, 3, 9}, 0, 0, 0, 0, 0);
        dueColours(new int[] {2, 3, 9}, 0, 0, 0, 0, 0);
        dueColours(new int[] {2, 2, 9}, 0, 0, 0, 0, 0);
        dueColours(new int[] {1, 2, 9}, 0, 0, 0, 0, 9);
        dueColours(new int[] {1, 1, 9}, 0, 0, 0, 0, 9);
        dueColours(new int[] {1, 3, 9}, 0, 0, 0, 0, 0);
        CHECK.sentence("Of several entries for it one with a PARENT that is not 0 comes first");
        dueColours(new int[] {3, 0, 7, 3, 1, 8}, 7, 0, 0, 8, 0);
        dueColours(new int[] {3, 1, 8, 3, 0, 7}, 7, 0, 0, 8, 0);
        dueColours(new int[] {3, 9, 8, 3, 0, 7}, 7, 0, 0, 7, 0);
        dueColours(new int[] {3, 0, 7, 3, 9, 8}, 7, 0, 0, 7, 0);
        CHECK.sentence("then the latest");
        dueColours(new int[] {3, 0, 7, 3, 0, 8}, 8, 0, 0, 8, 0);
        dueColours(new int[] {3, 1, 7, 3, 2, 8}, 0, 0, 0, 8, 0);
        dueColours(new int[] {3, 2, 8, 3, 1, 7}, 0, 0, 0, 7, 0);
        dueColours(new int[] {3, 1, 7, 3, 9, 8}, 0, 0, 0, 7, 0);
        dueColours(new int[] {3, 1, 7, 3, 1, 8, 3, 0, 9}, 9, 0, 0, 8, 0);
        dueColours(new int[] {3, 0, 1, 3, 0, 2, 3, 0, 3, 3, 0, 4, 3, 0, 5, 3, 0, 6}, 6, 0, 0, 6, 0);
    }

    private static void coloursAnew() {
        CHECK.sentence("of its SCOPES: those that it has now");
        ScopeLines x = coloured(3, 0, 9, 2, 0, 8);
        Check.put(x, "<<<<<", 0);
        CHECK.dueTokens(x, 0, "0:1/1 1:1/1");
        CHECK.due("<", x.token(0, 0, 3), 0);
        CHECK.due("<<<<", x.token(0, 1, 3), 0);
        for (String deeper : new String[] {"<{a{a", "bbbbb", "<{{{{"}) {
            Check.put(x, deeper, 0);
            Check.put(x, "c}d>e", 0);
            CHECK.due("c}d>e", x.token(0, 0, 3), 0);
            Check.put(x, "<>c<>", 0);
            for (int t = 0; t < 5; t++) {
                CHECK.due("token " + t + " of <>c<>", x.token(0, t, 3), 0);
            }
        }
    }

    public static void main(String[] args) {
        numbers();
        candidateOrder();
        twice();
        states();
        marking();
        firstMatch();
        noCharacters();
        fiveOpen();
        mostMatches();
        scopesOfTokens();
        putting();
        dropping();
        allLines();
        colours();
        coloursAnew();
        CHECK.finish("TokenEdgesTest");
    }
}
