/** Promises 1 to 5: a new object, pattern, newPattern, compile and fault. */
public final class PatternTest {
    public static void main(String[] args) {
        newObject();
        patternTakesSigns();
        patternHasALimit();
        patternIsNotReadyBehindAChange();
        newPatternEmpties();
        compileAnswersGroups();
        compileAnswersBad();
        compileAnswersEndless();
        compileAnswersLarge();
        compileAsksInOrder();
        compileForgetsWhatWasFound();
        faultNamesThePlace();
        faultInBraces();
        faultInClasses();
        faultWithGroups();
        Check.end();
    }

    private static void newObject() {
        PatternSearch search = new PatternSearch();
        for (int what = 0; what <= 3; what++) {
            Check.due("new: state(" + what + ")", search.state(what), 0);
        }
        Check.due("new: state(4)", search.state(4), Check.NONE);
        Check.due("new: fault()", search.fault(), Check.NONE);
        Check.due("new: output(0)", search.output(0), Check.NONE);
        Check.due("new: find(0)", search.find(0), Check.REFUSED);
        Check.due("new: group(0, false)", search.group(0, false), Check.REFUSED);
        Check.due("new: whole(0, 0)", search.whole(0, 0), Check.REFUSED);
        Check.due("new: matches()", search.matches(), Check.REFUSED);
        Check.due("new: replace(0)", search.replace(0), Check.REFUSED);
        Check.due("new: compile()", search.compile(), 0);
        Check.due("new and compiled: group(0, false)", search.group(0, false), Check.NONE);
        Check.due("new and compiled: group(0, true)", search.group(0, true), Check.NONE);
        Check.due("new and compiled: find(0)", search.find(0), 0);
    }

    private static void patternTakesSigns() {
        PatternSearch search = new PatternSearch();
        int[] wrong = {31, 127, 0, -1, Integer.MIN_VALUE, Integer.MAX_VALUE, 'a' + 256, 'a' + 65536};
        for (int sign : wrong) {
            Check.due("pattern(" + sign + ")", search.pattern(sign), Check.REFUSED);
        }
        Check.due("state(0)", search.state(0), 0);
        Check.due("pattern(32)", search.pattern(32), 1);
        Check.due("pattern(126)", search.pattern(126), 2);
        Check.due("state(0)", search.state(0), 2);
        search.compile();
        Check.putText(search, "x ~");
        Check.due("find(0) of both edges", search.find(0), 1);
    }

    private static void patternHasALimit() {
        PatternSearch search = new PatternSearch();
        for (int length = 1; length <= 28; length++) {
            Check.due("pattern('a')", search.pattern('a'), length);
        }
        Check.due("the 29th sign", search.pattern('a'), Check.REFUSED);
        Check.due("state(0)", search.state(0), 28);
        Check.due("compile()", search.compile(), 0);
        Check.due("state(4)", search.state(4), 28);
        Check.due("the 29th sign of a ready pattern", search.pattern('a'), Check.REFUSED);
        Check.due("state(3)", search.state(3), 1);
    }

    private static void patternIsNotReadyBehindAChange() {
        PatternSearch search = Check.ready("a", "a");
        Check.due("pattern(31) of a ready pattern", search.pattern(31), Check.REFUSED);
        Check.due("state(3)", search.state(3), 1);
        Check.due("find(0)", search.find(0), 0);
        Check.due("pattern('*')", search.pattern('*'), 2);
        Check.due("state(3)", search.state(3), 0);
        Check.due("state(4)", search.state(4), Check.NONE);
        checkRefusals(search);
    }

    private static void checkRefusals(PatternSearch search) {
        Check.due("not ready: find(0)", search.find(0), Check.REFUSED);
        Check.due("not ready: group(0, false)", search.group(0, false), Check.REFUSED);
        Check.due("not ready: group(6, true)", search.group(6, true), Check.REFUSED);
        Check.due("not ready: whole(0, 0)", search.whole(0, 0), Check.REFUSED);
        Check.due("not ready: matches()", search.matches(), Check.REFUSED);
        Check.due("not ready: replace(0)", search.replace(0), Check.REFUSED);
    }

    private static void newPatternEmpties() {
        PatternSearch search = Check.ready("(a)", "a");
        search.replace(0);
        Check.due("newPattern()", search.newPattern(), 0);
        Check.due("state(0)", search.state(0), 0);
        Check.due("state(1)", search.state(1), 1);
        Check.due("state(2)", search.state(2), 1);
        Check.due("state(3)", search.state(3), 0);
        checkRefusals(search);
        Check.due("fault()", search.fault(), Check.NONE);
        Check.due("pattern('b')", search.pattern('b'), 1);
        Check.due("newPattern()", search.newPattern(), 0);
        Check.due("newPattern() again", search.newPattern(), 0);
    }

    private static void compileAnswersGroups() {
        compiles("", 0, 0);
        compiles("abc", 0, 3);
        compiles("()", 1, 2);
        compiles("(a)(b(c))", 3, 9);
        compiles("((((((a))))))", 6, 13);
        compiles("[(()]", 0, 1);
        compiles("|", 0, 2);
        compiles("||", 0, 4);
        compiles("a|b|c", 0, 7);
        compiles("(a|)", 1, 5);
        compiles("a*", 0, 3);
        compiles("a+?", 0, 3);
        compiles("a??", 0, 3);
        compiles("a{3}", 0, 3);
        compiles("a{3,3}?", 0, 3);
        compiles("a{0,6}", 0, 18);
        compiles("a{2,5}", 0, 11);
        compiles("(ab|c*){1,2}", 1, 20);
        compiles("^.$[^a-z]", 0, 4);
        compiles("-,09<>\\ ~", 0, 9);
    }

    private static void compiles(String pattern, int groups, int size) {
        PatternSearch search = Check.withPattern(pattern);
        Check.due("compile() of " + pattern, search.compile(), groups);
        Check.due("SIZE of " + pattern, search.state(4), size);
        Check.due("state(3) of " + pattern, search.state(3), 1);
        Check.due("fault() of " + pattern, search.fault(), Check.NONE);
    }

    private static void compileAnswersBad() {
        String[] bad = {"*", "a**", "(", ")", "a)", "(a", "[", "[]", "[a", "]", "{", "}", "a{", "a{2", "a{0}", "a{7}", "a{3,2}"};
        for (String pattern : bad) {
            notReady(pattern, Check.BAD);
        }
    }

    private static void compileAnswersEndless() {
        String[] endless = {
            "^*", "$+", "()*", "(|a)+", "(a|)*", "(a*)*", "(a+|b*)+", "(a?)+?", "(a{0,2})*?", "(^a?)*", "((a*){2})*",
            "((a?)+)", "x(y(()*)z)", "(a?b?|c)*", "(($))+", "((a*){3,4})+",
        };
        for (String pattern : endless) {
            notReady(pattern, Check.ENDLESS);
        }
        String[] fine = {"(a)*", "(a+)+", "(a?b)*", "(a|bc?)+", "(a*)?", "(a*){2}", "(){0,6}", "^?", "${3}", "^{0,2}", "(a{1,2})*", "[^a]*"};
        for (String pattern : fine) {
            Check.due("compile() of " + pattern + " is done", Check.withPattern(pattern).compile() >= 0, true);
        }
    }

    private static void compileAnswersLarge() {
        compiles("(.{6}.{6}.{6}.{6}.{4}){4}", 1, 120);
        notReady("(.{6}.{6}.{6}.{6}.{4}){4}.", Check.LARGE);
        notReady("(.{6}.{6}.{6}.{6}.{4}){4}|", Check.LARGE);
        notReady("(.{6}.{6}.{6}.{6}.{4}){4}()", Check.LARGE);
        compiles("(a{0,6}){6}", 1, 120);
        notReady("(a{0,6}){6}a", Check.LARGE);
        compiles("(a{5,6}b*c|d){6}(^){6}", 2, 120);
        notReady("(a{5,6}b*c|d){6}(^){6}xyz", Check.LARGE);
        notReady("(((a{6}){6}){6}){6}", Check.LARGE);
    }

    private static void notReady(String pattern, int answer) {
        PatternSearch search = Check.ready("a", "a");
        search.find(0);
        Check.putPattern(search, pattern);
        Check.due("compile() of " + pattern, search.compile(), answer);
        Check.due("state(3) of " + pattern, search.state(3), 0);
        Check.due("state(4) of " + pattern, search.state(4), Check.NONE);
        Check.due("fault() of " + pattern + " is NONE", search.fault() == Check.NONE, answer != Check.BAD);
        checkRefusals(search);
        Check.due("compile() again of " + pattern, search.compile(), answer);
    }

    private static void compileAsksInOrder() {
        notReady("(((a{6}){6}){6}){6}(b?)*)", Check.BAD);
        notReady("(((a{6}){6}){6}){6}(b?)*", Check.ENDLESS);
        notReady("(b?)*(", Check.BAD);
        notReady("(a{0,6}){6}(b{6}){6})", Check.BAD);
    }

    private static void compileForgetsWhatWasFound() {
        PatternSearch search = Check.ready("a", "xa");
        search.find(0);
        Check.due("group(0, false)", search.group(0, false), 1);
        Check.due("compile()", search.compile(), 0);
        Check.due("group(0, false) behind compile", search.group(0, false), Check.NONE);
        Check.due("group(0, true) behind compile", search.group(0, true), Check.NONE);
    }

    private static void fault(String pattern, int place) {
        PatternSearch search = Check.withPattern(pattern);
        Check.due("fault() of " + pattern, search.fault(), place);
        Check.due("compile() of " + pattern + " is BAD", search.compile() == Check.BAD, place != Check.NONE);
        Check.due("fault() of " + pattern + " behind compile", search.fault(), place);
    }

    private static void faultNamesThePlace() {
        fault("", Check.NONE);
        fault("*", 0);
        fault("+a", 0);
        fault("?", 0);
        fault("{", 0);
        fault("}", 0);
        fault("]", 0);
        fault("a]", 1);
        fault("a}", 1);
        fault("|*", 1);
        fault("(*", 1);
        fault("(?", 1);
        fault("a|+", 2);
        fault("a**", 2);
        fault("a*+", 2);
        fault("a?+", 2);
        fault("a*{2}", 2);
        fault("a???", 3);
        fault("a*??", 3);
        fault("a+?*", 3);
        fault("a{2}??", 5);
        fault("a{2}{3}", 4);
        fault("a{2}*", 4);
        fault("a*?a*?", Check.NONE);
        fault("^^$$", Check.NONE);
        fault("^*$+", Check.NONE);
    }

    private static void faultInBraces() {
        fault("a{", 2);
        fault("a{0", 3);
        fault("a{0}", 3);
        fault("a{0,", 4);
        fault("a{0,0", 4);
        fault("a{0,1", 5);
        fault("a{0,1}", Check.NONE);
        fault("a{0,6}", Check.NONE);
        fault("a{0,7}", 4);
        fault("a{6}", Check.NONE);
        fault("a{6,6}", Check.NONE);
        fault("a{6,5}", 4);
        fault("a{7}", 2);
        fault("a{x}", 2);
        fault("a{,2}", 2);
        fault("a{}", 2);
        fault("a{ 1}", 2);
        fault("a{12}", 3);
        fault("a{1,}", 4);
        fault("a{1,23}", 5);
        fault("a{1,2,3}", 5);
        fault("a{1x", 3);
        fault("a{/}", 2);
    }

    private static void faultInClasses() {
        fault("[", 1);
        fault("[]", 1);
        fault("[^", 2);
        fault("[^]", 2);
        fault("[^^]", 2);
        fault("[-a]", 1);
        fault("[^-a]", 2);
        fault("[a^]", 2);
        fault("[[]", 1);
        fault("[a[]", 2);
        fault("[a", 2);
        fault("[a-", 3);
        fault("[a-]", 3);
        fault("[a-^]", 3);
        fault("[a-[]", 3);
        fault("[a--]", 3);
        fault("[b-a]", 3);
        fault("[b-b]", Check.NONE);
        fault("[a-c", 4);
        fault("[a-c-e]", 4);
        fault("[a-cx-e]", 6);
        fault("[a-cc-e]", Check.NONE);
        fault("[~-~]", Check.NONE);
        fault("[ -~]", Check.NONE);
        fault("[.$|()*+?{},\\]", Check.NONE);
        fault("[*-?]", Check.NONE);
        fault("[a]]", 3);
    }

    private static void faultWithGroups() {
        fault(")", 0);
        fault("(", 1);
        fault("()", Check.NONE);
        fault("())", 2);
        fault("(()", 3);
        fault("(a|b", 4);
        fault("a)b", 1);
        fault("(]", 1);
        fault("()()()()()()", Check.NONE);
        fault("()()()()()()(", 12);
        fault("((((((", 6);
        fault("(((((((", 6);
        fault("((((((a))))))", Check.NONE);
        fault("((((((a))))))(", 13);
        fault("()()()()()()[(]", Check.NONE);
        fault("[((((((((]()()()()()()", Check.NONE);
        fault("[((((((((]()()()()()()(", 22);
        fault("(a{3,)", 5);
        fault("(((((((((((((((((((((((((((( ", 6);
    }
}
