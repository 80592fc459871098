/** What the tests share: counting wrong answers, and setting up an object by calls of the face alone. */
final class Check {
    static final int REFUSED = -1;
    static final int NONE = -2;
    static final int BAD = -3;
    static final int ENDLESS = -4;
    static final int LARGE = -5;

    private static int asked = 0;
    private static int wrong = 0;

    private Check() {
    }

    static void due(String call, Object got, Object want) {
        asked++;
        if (!want.equals(got)) {
            wrong++;
            System.out.println(call + " answered " + got + ", due is " + want);
        }
    }

    static void end() {
        System.out.println(asked + " answers, " + wrong + " wrong");
        if (wrong != 0 || asked == 0) {
            System.exit(1);
        }
    }

    static void putPattern(PatternSearch search, String pattern) {
        search.newPattern();
        for (int i = 0; i < pattern.length(); i++) {
            search.pattern(pattern.charAt(i));
        }
    }

    static void putText(PatternSearch search, String text) {
        search.newText();
        for (int i = 0; i < text.length(); i++) {
            search.text(text.charAt(i));
        }
    }

    static PatternSearch withPattern(String pattern) {
        PatternSearch search = new PatternSearch();
        putPattern(search, pattern);
        return search;
    }

    static PatternSearch ready(String pattern, String text) {
        PatternSearch search = withPattern(pattern);
        putText(search, text);
        if (search.compile() < 0) {
            due("compile() of " + pattern, false, true);
        }
        return search;
    }

    static String outputOf(PatternSearch search) {
        StringBuilder output = new StringBuilder();
        for (int i = 0; i < search.state(2); i++) {
            output.append((char) search.output(i));
        }
        return output.toString();
    }

    /** The match that was found and the groups up to 'groups', such as "0-3 1-2 none". */
    static String boundsOf(PatternSearch search, int groups) {
        StringBuilder bounds = new StringBuilder();
        for (int group = 0; group <= groups; group++) {
            int begin = search.group(group, false);
            int end = search.group(group, true);
            bounds.append(group == 0 ? "" : " ");
            bounds.append(begin == NONE && end == NONE ? "none" : begin + "-" + end);
        }
        return bounds.toString();
    }

    /** All that the face tells without changing anything. */
    static String everythingOf(PatternSearch search) {
        StringBuilder all = new StringBuilder();
        for (int what = 0; what <= 4; what++) {
            all.append(search.state(what)).append(' ');
        }
        all.append(search.fault()).append(' ');
        all.append(boundsOf(search, 6)).append(' ');
        all.append(outputOf(search)).append(' ');
        if (search.state(3) == 1) {
            all.append(search.matches()).append(' ');
            for (int to = 0; to <= search.state(1); to++) {
                all.append(search.whole(0, to));
            }
        }
        return all.toString();
    }
}
