/** What the tests share: counting wrong answers, and setting up an object by calls of the face alone. */
final class Check {
    static final int REFUSED = -1;
    static final int NONE = -2;
    static final int BAD = -3;
    static final int ENDLESS = -4;
    static final int LARGE = -5;

    private static int asked = 0;
    private static int wrong = 0;
    private static String sentence = "";
    private static int askedBefore = -1;

    private Check() {
    }

    /** Names the words of the document that the answers from here on are due by. */
    static void sentence(String words) {
        endSentence();
        sentence = words;
        askedBefore = asked;
    }

    private static void endSentence() {
        if (askedBefore == asked) {
            wrong++;
            System.out.println("no answer was asked for: " + sentence);
        }
    }

    static void due(String call, Object got, Object want) {
        asked++;
        if (!want.equals(got)) {
            wrong++;
            System.out.println(call + " answered " + got + ", due is " + want + (sentence.isEmpty() ? "" : ", by: " + sentence));
        }
    }

    static void end() {
        endSentence();
        System.out.println(asked + " answers, " + wrong + " wrong");
        if (wrong != 0 || asked == 0) {
            System.exit(1);
        }
    }

    static void putPattern(PatternSearch search, String pattern) {
        search.newPattern();
        for (int i = 0; i < pattern.length(); i++) {
            search.pattern(pattern.charAt(i));
        }
    }

    static void putText(PatternSearch search, String text) {
        search.newText();
        for (int i = 0; i < text.length(); i++) {
            search.text(text.charAt(i));
        }
    }

    static PatternSearch withPattern(String pattern) {
        PatternSearch search = new PatternSearch();
        putPattern(search, pattern);
        return search;
    }

    static PatternSearch ready(String pattern, String text) {
        PatternSearch search = withPattern(pattern);
        putText(search, text);
        due("compile() of " + pattern + " is done", search.compile() >= 0, true);
        return search;
    }

    static void fault(String pattern, int place) {
        PatternSearch search = withPattern(pattern);
        due("fault() of " + pattern, search.fault(), place);
        due("compile() of " + pattern + " is BAD", search.compile() == BAD, place != NONE);
        due("fault() of " + pattern + " behind compile", search.fault(), place);
    }

    static void compiles(String pattern, int groups, int size) {
        PatternSearch search = withPattern(pattern);
        due("compile() of " + pattern, search.compile(), groups);
        due("state(3) of " + pattern, search.state(3), 1);
        due("SIZE of " + pattern, search.state(4), size);
    }

    /** The pattern is put where another one was READY and has found something. */
    static void notReady(String pattern, int answer) {
        PatternSearch search = ready("(x)", "x");
        search.find(0);
        putPattern(search, pattern);
        due("compile() of " + pattern, search.compile(), answer);
        due("state(3) of " + pattern, search.state(3), 0);
        due("state(4) of " + pattern, search.state(4), NONE);
        refusesWhatNeedsAPattern(search);
        due("compile() again of " + pattern, search.compile(), answer);
    }

    static void refusesWhatNeedsAPattern(PatternSearch search) {
        due("no pattern READY: find(0)", search.find(0), REFUSED);
        due("no pattern READY: group(0, false)", search.group(0, false), REFUSED);
        due("no pattern READY: group(6, true)", search.group(6, true), REFUSED);
        due("no pattern READY: whole(0, 0)", search.whole(0, 0), REFUSED);
        due("no pattern READY: matches()", search.matches(), REFUSED);
        due("no pattern READY: replace(0)", search.replace(0), REFUSED);
    }

    /** What find(0) answers and the bounds of the match and of the groups up to 'groups' behind it. */
    static void finds(String pattern, String text, int groups, String bounds) {
        findsFrom(0, pattern, text, groups, bounds);
    }

    static void findsFrom(int from, String pattern, String text, int groups, String bounds) {
        PatternSearch search = ready(pattern, text);
        int place = search.find(from);
        String call = "find(" + from + ") of " + pattern + " in '" + text + "'";
        due("bounds behind " + call, boundsOf(search, groups), bounds);
        due(call, place, search.group(0, false));
    }

    /** The answers of whole(0, 0), whole(0, 1) and so on to the text's end. */
    static void wholes(String pattern, String text, String answers) {
        PatternSearch search = ready(pattern, text);
        for (int to = 0; to <= text.length(); to++) {
            due("whole(0, " + to + ") of " + pattern + " in '" + text + "'", search.whole(0, to), answers.charAt(to) - '0');
        }
    }

    static void counts(String pattern, String text, int count) {
        PatternSearch search = ready(pattern, text);
        due("matches() of " + pattern + " in '" + text + "'", search.matches(), count);
    }

    static void replaces(String pattern, String text, int group, String output) {
        PatternSearch search = ready(pattern, text);
        String call = "replace(" + group + ") of " + pattern + " in '" + text + "'";
        due(call, search.replace(group), output.length());
        due("the output of " + call, outputOf(search), output);
        due("state(2) behind " + call, search.state(2), output.length());
    }

    static String outputOf(PatternSearch search) {
        StringBuilder output = new StringBuilder();
        int length = search.state(2);
        for (int i = 0; i < length; i++) {
            output.append((char) search.output(i));
        }
        return output.toString();
    }

    /** The match that was found and the groups up to 'groups', such as "0-3 1-2 none". */
    static String boundsOf(PatternSearch search, int groups) {
        StringBuilder bounds = new StringBuilder();
        for (int group = 0; group <= groups; group++) {
            int begin = search.group(group, false);
            int end = search.group(group, true);
            bounds.append(group == 0 ? "" : " ");
            bounds.append(begin == NONE && end == NONE ? "none" : begin + "-" + end);
        }
        return bounds.toString();
    }

    /** All that the face tells without changing anything. */
    static String everythingOf(PatternSearch search) {
        StringBuilder all = new StringBuilder();
        for (int what = 0; what <= 4; what++) {
            all.append(search.state(what)).append(' ');
        }
        all.append(search.fault()).append(' ');
        all.append(boundsOf(search, 6)).append(' ');
        all.append(outputOf(search)).append(' ');
        if (search.state(3) == 1) {
            all.append(search.matches()).append(' ');
            for (int to = 0; to <= search.state(1); to++) {
                all.append(search.whole(0, to));
            }
        }
        return all.toString();
    }
}
