/** Promises 1 to 5, sentence by sentence: a new object, pattern, newPattern, compile and fault. */
public final class PatternTest {
    private static final String FULL_SIZE = "(.{6}.{6}.{6}.{6}.{4}){4}";

    public static void main(String[] args) {
        newObjectIsEmpty();
        newObjectHasNoPattern();
        newObjectHasFoundNothing();
        patternPutsASign();
        patternOutOfRange();
        patternIsFull();
        patternIsNotReadyAnyMore();
        patternAnswersTheLength();
        newPatternEmpties();
        newPatternIsNotReadyAnyMore();
        newPatternAnswers();
        compileInThisOrder();
        compileWithASignThatCannotStand();
        compileOfAnUnfinishedPattern();
        compileEndless();
        compileLarge();
        compileMakesReady();
        compileForgets();
        compileAnswersTheGroups();
        compileNotReady();
        faultPlace();
        faultOfAnUnfinishedPattern();
        faultOfAWholePattern();
        Check.end();
    }

    private static void newObjectIsEmpty() {
        Check.sentence("Promise 1: Pattern and text are empty");
        PatternSearch search = new PatternSearch();
        Check.due("state(0)", search.state(0), 0);
        Check.due("state(1)", search.state(1), 0);
        Check.due("fault()", search.fault(), Check.NONE);
        Check.due("compile()", search.compile(), 0);
        Check.due("state(4)", search.state(4), 0);
        Check.due("find(1)", search.find(1), Check.REFUSED);
        Check.due("find(0)", search.find(0), 0);
        Check.due("matches()", search.matches(), 1);
    }

    private static void newObjectHasNoPattern() {
        Check.sentence("Promise 1: no pattern is READY");
        PatternSearch search = new PatternSearch();
        Check.due("state(3)", search.state(3), 0);
        Check.due("state(4)", search.state(4), Check.NONE);
        Check.refusesWhatNeedsAPattern(search);
    }

    private static void newObjectHasFoundNothing() {
        Check.sentence("Promise 1: nothing was found.");
        PatternSearch search = new PatternSearch();
        search.compile();
        Check.due("bounds", Check.boundsOf(search, 6), "none none none none none none none");
        Check.due("the first answer of another new object", new PatternSearch().group(0, false), Check.REFUSED);
    }

    private static void patternPutsASign() {
        Check.sentence("Promise 2: Puts a sign 32 .. 126 at the end of the pattern");
        PatternSearch search = new PatternSearch();
        search.pattern(126);
        search.pattern(32);
        search.compile();
        Check.putText(search, " ~ ~");
        Check.due("find(0) of '~ '", search.find(0), 1);
        search.pattern('*');
        search.compile();
        Check.due("find(0) of '~ *'", search.find(0), 1);
        Check.due("find(2) of '~ *'", search.find(2), 3);
    }

    private static void patternOutOfRange() {
        Check.sentence("Promise 2: a sign 32 .. 126");
        int[] wrong = {31, 127, 0, -1, 128, 255, Integer.MIN_VALUE, Integer.MAX_VALUE, 'a' + 256, 'a' + 65536, 'a' - 256};
        PatternSearch search = new PatternSearch();
        for (int sign : wrong) {
            Check.due("pattern(" + sign + ")", search.pattern(sign), Check.REFUSED);
            Check.due("state(0) behind it", search.state(0), 0);
        }
        Check.due("pattern(32)", search.pattern(32), 1);
        Check.due("pattern(126)", search.pattern(126), 2);
    }

    private static void patternIsFull() {
        Check.sentence("Promise 2: it has 28 signs: REFUSED.");
        PatternSearch search = Check.ready("a".repeat(28), "");
        Check.due("pattern('b')", search.pattern('b'), Check.REFUSED);
        Check.due("pattern('*')", search.pattern('*'), Check.REFUSED);
        Check.due("state(0)", search.state(0), 28);
        Check.due("state(3)", search.state(3), 1);
        search.newPattern();
        Check.due("pattern('b') behind newPattern", search.pattern('b'), 1);
    }

    private static void patternIsNotReadyAnyMore() {
        Check.sentence("Promise 2: No pattern is READY any more.");
        PatternSearch search = Check.ready("a", "a");
        search.find(0);
        Check.due("pattern('b')", search.pattern('b'), 2);
        Check.due("state(3)", search.state(3), 0);
        Check.due("state(4)", search.state(4), Check.NONE);
        Check.refusesWhatNeedsAPattern(search);
        Check.due("pattern('c')", search.pattern('c'), 3);
        Check.due("state(3) as before", search.state(3), 0);
        search = Check.ready("", "a");
        search.pattern('a');
        Check.due("state(3) behind the first sign", search.state(3), 0);
    }

    private static void patternAnswersTheLength() {
        Check.sentence("Promise 2: Answers the length.");
        PatternSearch search = new PatternSearch();
        for (int length = 1; length <= 28; length++) {
            Check.due("pattern('(')", search.pattern('('), length);
            Check.due("state(0)", search.state(0), length);
        }
    }

    private static void newPatternEmpties() {
        Check.sentence("Promise 3: The pattern is empty");
        PatternSearch search = Check.ready("(a)b", "ab");
        search.replace(1);
        search.newPattern();
        Check.due("state(0)", search.state(0), 0);
        Check.due("fault()", search.fault(), Check.NONE);
        Check.due("the text's length", search.state(1), 2);
        Check.due("the output", Check.outputOf(search), "a");
        Check.due("compile()", search.compile(), 0);
        Check.due("state(4)", search.state(4), 0);
        Check.due("whole(0, 2)", search.whole(0, 2), 0);
        search = Check.withPattern("*".repeat(28));
        search.newPattern();
        Check.due("fault() behind a bad one", search.fault(), Check.NONE);
        Check.due("pattern('b') behind a full one", search.pattern('b'), 1);
    }

    private static void newPatternIsNotReadyAnyMore() {
        Check.sentence("Promise 3: none is READY any more.");
        PatternSearch search = Check.ready("a", "a");
        search.find(0);
        search.newPattern();
        Check.due("state(3)", search.state(3), 0);
        Check.due("state(4)", search.state(4), Check.NONE);
        Check.refusesWhatNeedsAPattern(search);
        search = Check.ready("", "a");
        search.newPattern();
        Check.due("state(3) though it was empty before", search.state(3), 0);
        Check.refusesWhatNeedsAPattern(search);
    }

    private static void newPatternAnswers() {
        Check.sentence("Promise 3: Answers 0.");
        PatternSearch search = new PatternSearch();
        Check.due("newPattern() of a new object", search.newPattern(), 0);
        search.pattern('a');
        Check.due("newPattern()", search.newPattern(), 0);
        Check.due("newPattern() again", search.newPattern(), 0);
        Check.due("newPattern() of a full one", Check.withPattern("a".repeat(28)).newPattern(), 0);
    }

    private static void compileInThisOrder() {
        Check.sentence("Promise 4: Checks the pattern, in this order.");
        Check.notReady("(((a{6}){6}){6}){6}(b?)*)", Check.BAD);
        Check.notReady("(b?)*(((a{6}){6}){6}){6}(", Check.BAD);
        Check.notReady("(b?)*(", Check.BAD);
        Check.notReady("()*)", Check.BAD);
        Check.notReady(FULL_SIZE + "a)", Check.BAD);
        Check.notReady(FULL_SIZE + "a(", Check.BAD);
        Check.notReady("(((a{6}){6}){6}){6}(b?)*", Check.ENDLESS);
        Check.notReady("^*(((a{6}){6}){6}){6}", Check.ENDLESS);
        Check.notReady(FULL_SIZE + "$+", Check.ENDLESS);
        Check.notReady("((((a{6}){6}){6}){6}|)*", Check.ENDLESS);
    }

    private static void compileWithASignThatCannotStand() {
        Check.sentence("Promise 4: It has a sign that can't stand");
        String[] bad = {"*", "a**", ")", "a)", "[]", "]", "{", "}", "a{0}", "a{7}", "a{3,2}", "[b-a]", "()()()()()()()"};
        for (String pattern : bad) {
            Check.notReady(pattern, Check.BAD);
        }
        Check.notReady("a".repeat(27) + ")", Check.BAD);
    }

    private static void compileOfAnUnfinishedPattern() {
        Check.sentence("Promise 4: or it is not a whole pattern: BAD (see fault).");
        String[] unfinished = {"(", "(a", "((a)", "[", "[^", "[a", "[a-", "[a-b", "a{", "a{2", "a{0", "a{2,", "a{2,3", "(a|"};
        for (String pattern : unfinished) {
            Check.notReady(pattern, Check.BAD);
            Check.fault(pattern, pattern.length());
        }
        Check.notReady("a".repeat(22) + "((((((", Check.BAD);
    }

    private static void compileEndless() {
        Check.sentence("Promise 4: '*' or '+' is behind an atom that CAN BE EMPTY: ENDLESS.");
        String[] endless = {
            "^*", "$+", "()*", "(|a)+", "(a|)*", "(a*)*", "(a+|b*)+", "(a?)+?", "(a{0,2})*?", "(^a?)*", "((a*){2})*",
            "((a?)+)", "x(y(()*)z)", "(a?b?|c)*", "(($))+", "((a*){3,4})+", "(()*){0,1}", "a|b|$*", "(^+|a)b", "()*?a",
        };
        for (String pattern : endless) {
            Check.notReady(pattern, Check.ENDLESS);
        }
        String[] fine = {
            "(a)*", "(a+)+", "(a?b)*", "(a|bc?)+", "(a*)?", "(a*){2}", "(){0,6}", "^?", "${3}", "^{0,2}", "(a{1,2})*", "[^a]*",
            "(a*)??", "(a*){1,6}?", "()a*", "(b?)a+", "((^)a)*",
        };
        for (String pattern : fine) {
            Check.due("compile() of " + pattern + " is done", Check.withPattern(pattern).compile() >= 0, true);
        }
    }

    private static void compileLarge() {
        Check.sentence("Promise 4: Its SIZE is above 120: LARGE.");
        Check.compiles(FULL_SIZE, 1, 120);
        Check.notReady(FULL_SIZE + ".", Check.LARGE);
        Check.notReady(FULL_SIZE + "|", Check.LARGE);
        Check.notReady(FULL_SIZE + "()", Check.LARGE);
        Check.compiles("(a{0,6}){6}", 1, 120);
        Check.notReady("(a{0,6}){6}a", Check.LARGE);
        Check.notReady("a(a{0,6}){6}", Check.LARGE);
        Check.compiles("(a{5,6}b*c|d){6}(^){6}", 2, 120);
        Check.notReady("(a{5,6}b*c|d){6}(^){6}xyz", Check.LARGE);
        Check.compiles("(((((a{6}){6}){2})))", 5, 106);
        // As large as can be, and each part of it is needed for the match.
        Check.compiles("(.{2}(){6}){6}(.{6}){3}", 3, 120);
        Check.finds("(.{2}(){6}){6}(.{6}){3}", "a".repeat(30), 3, "0-30 10-12 12-12 24-30");
        Check.compiles("(^{6}^{6}^{6}^{6}^{4}){4}", 1, 120);
        Check.finds("(^{6}^{6}^{6}^{6}^{4}){4}", "a", 1, "0-0 0-0");
        Check.notReady("(((((a{6}){6}){3})))", Check.LARGE);
        Check.notReady("((((a{6}){6}){6}){6}){6}", Check.LARGE);
        Check.notReady("((((a{6}){6}){6}){0,6}){0,6}", Check.LARGE);
    }

    private static void compileMakesReady() {
        Check.sentence("Promise 4: Else it is READY");
        PatternSearch search = Check.withPattern("a");
        Check.due("state(3) before compile", search.state(3), 0);
        search.compile();
        Check.due("state(3)", search.state(3), 1);
        search.compile();
        Check.due("state(3) behind compile again", search.state(3), 1);
        search.text('a');
        search.newText();
        Check.due("state(3) behind text and newText", search.state(3), 1);
        Check.putText(search, "xa");
        Check.due("find(0)", search.find(0), 1);
        Check.putPattern(search, "x");
        search.compile();
        Check.due("find(0) of another pattern", search.find(0), 0);
    }

    private static void compileForgets() {
        Check.sentence("Promise 4: what was found before is forgotten");
        PatternSearch search = Check.ready("(a)", "xa");
        search.find(0);
        search.replace(0);
        Check.due("bounds", Check.boundsOf(search, 1), "1-2 1-2");
        search.compile();
        Check.due("bounds behind compile", Check.boundsOf(search, 1), "none none");
        Check.due("the output, which stays", Check.outputOf(search), "xa");
        search.find(0);
        Check.putPattern(search, "(");
        search.compile();
        Check.putPattern(search, "(b)");
        search.compile();
        Check.due("bounds behind another pattern", Check.boundsOf(search, 1), "none none");
    }

    private static void compileAnswersTheGroups() {
        Check.sentence("Promise 4: the number of its groups.");
        Check.compiles("", 0, 0);
        Check.compiles("abc", 0, 3);
        Check.compiles("()", 1, 2);
        Check.compiles("(a)(b(c))", 3, 9);
        Check.compiles("(a)|(b)", 2, 8);
        Check.compiles("(a){6}", 1, 18);
        Check.compiles("((((((a))))))", 6, 13);
        Check.compiles("[(()]", 0, 1);
        PatternSearch search = Check.ready("(a)(b)", "");
        Check.putPattern(search, "(a)");
        Check.due("compile() behind a pattern with more groups", search.compile(), 1);
    }

    private static void compileNotReady() {
        Check.sentence("Promise 4: Not READY after the other answers.");
        Check.notReady("(", Check.BAD);
        Check.notReady("()*", Check.ENDLESS);
        Check.notReady(FULL_SIZE + ".", Check.LARGE);
        PatternSearch search = Check.withPattern("(");
        search.compile();
        search.pattern(')');
        Check.due("compile() of the pattern that is whole now", search.compile(), 1);
        search.pattern('*');
        Check.due("compile() of the same with '*'", search.compile(), Check.ENDLESS);
        Check.due("state(3)", search.state(3), 0);
    }

    private static void faultPlace() {
        Check.sentence("Promise 5: The place of the first sign of the pattern that can't stand");
        Check.fault("*", 0);
        Check.fault("+a", 0);
        Check.fault("]", 0);
        Check.fault("a]", 1);
        Check.fault("a}", 1);
        Check.fault("|*", 1);
        Check.fault("(*", 1);
        Check.fault("a|+", 2);
        Check.fault("a**)]*", 2);
        Check.fault("a***", 2);
        Check.fault("(a))(", 3);
        Check.fault("a{0}{0}", 3);
        Check.fault("a".repeat(27) + ")", 27);
        Check.fault("*" + "a".repeat(27), 0);
    }

    private static void faultOfAnUnfinishedPattern() {
        Check.sentence("Promise 5: its length if all can but it is not a whole pattern");
        Check.fault("(", 1);
        Check.fault("[", 1);
        Check.fault("a{", 2);
        Check.fault("(a|b", 4);
        Check.fault("((((((", 6);
        Check.fault("a".repeat(27) + "(", 28);
        PatternSearch search = Check.withPattern("(a");
        Check.due("fault()", search.fault(), 2);
        search.pattern('b');
        Check.due("fault() behind one sign more", search.fault(), 3);
        search.pattern(')');
        Check.due("fault() of the whole", search.fault(), Check.NONE);
        search.pattern(')');
        Check.due("fault() behind one sign too many", search.fault(), 4);
        search.pattern('(');
        Check.due("fault() stays at the first one", search.fault(), 4);
    }

    private static void faultOfAWholePattern() {
        Check.sentence("Promise 5: NONE if it is a whole one.");
        String[] whole = {"", "a", "|", "()", "a*?b*?", "^^$$", "^*$+", "(a*)*", "(((a{6}){6}){6}){6}", "a".repeat(28)};
        for (String pattern : whole) {
            Check.fault(pattern, Check.NONE);
        }
        PatternSearch search = Check.ready("(a)", "a");
        search.find(0);
        Check.due("fault() of a READY pattern", search.fault(), Check.NONE);
        Check.due("state(3) behind fault", search.state(3), 1);
        Check.due("bounds behind fault", Check.boundsOf(search, 1), "0-1 0-1");
    }
}
