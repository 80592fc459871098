import java.util.ArrayList;
import java.util.List;

/** Holds the program against the Model on many patterns and texts. */
public final class ModelTest {
    private static final int PATTERNS = 30000;
    private static final int SHORT = 7;
    private static final String[] ALPHABETS = {"aaaab", "ab", "aaabbbc ~"};

    private final Dice dice;
    /** A heavy pattern is mostly of braces with high numbers, as else few are LARGE. */
    private final boolean heavy;
    /** With few signs there are many ways through a text, and preference tells. */
    private final String signs;
    private int groups;

    private ModelTest(long seed) {
        dice = new Dice(seed);
        heavy = dice.roll(4) == 0;
        signs = ALPHABETS[dice.roll(ALPHABETS.length)];
    }

    public static void main(String[] args) {
        int[] kinds = new int[5];
        for (int i = 0; i < PATTERNS; i++) {
            kinds[new ModelTest(i).checkOne()]++;
        }
        System.out.println("too long " + kinds[0] + ", endless " + kinds[1] + ", large " + kinds[2]
            + ", compared " + kinds[3] + ", given up " + kinds[4]);
        Check.due("there are many of each kind", kinds[1] > 500 && kinds[2] > 100 && kinds[3] > 10000, true);
        Check.end();
    }

    private int checkOne() {
        Model.Part pattern = choice(heavy ? 3 : 1 + dice.roll(3));
        String written = pattern.written();
        if (written.length() > 28) {
            return 0;
        }
        PatternSearch search = Check.withPattern(written);
        Check.due("fault() of " + written, search.fault(), Check.NONE);
        int answer = search.compile();
        if (pattern.isEndless()) {
            Check.due("compile() of " + written, answer, Check.ENDLESS);
            return 1;
        }
        if (pattern.size() > 120) {
            Check.due("compile() of " + written, answer, Check.LARGE);
            return 2;
        }
        Check.due("compile() of " + written, answer, groups);
        Check.due("state(4) of " + written, search.state(4), pattern.size());
        try {
            for (int i = 0; i < 3; i++) {
                compare(new Model(pattern), written, text());
            }
        } catch (Model.TooDear given) {
            return 4;
        }
        return 3;
    }

    private static void compare(Model model, String written, String text) {
        PatternSearch search = Check.ready(written, text);
        String what = " of " + written + " in '" + text + "'";
        for (int from = 0; from <= text.length(); from++) {
            search = goOn(search, written, text);
            compareFrom(from, model, search, text, what);
        }
        search = goOn(search, written, text);
        Check.due("matches()" + what, search.matches(), model.allMatches(text).size());
        for (int group = 0; group <= 6; group++) {
            String output = model.replace(text, group);
            Check.due("replace(" + group + ")" + what, search.replace(group), output.length());
            Check.due("output of replace(" + group + ")" + what, Check.outputOf(search), output);
        }
    }

    /** An object is good for 512 calls, and a long text takes more. */
    private static PatternSearch goOn(PatternSearch search, String written, String text) {
        return text.length() <= SHORT ? search : Check.ready(written, text);
    }

    private static void compareFrom(int from, Model model, PatternSearch search, String text, String what) {
        int[] bounds = model.find(text, from);
        int place = search.find(from);
        Check.due("find(" + from + ")" + what, place, bounds == null ? Check.NONE : bounds[0]);
        for (int i = 0; i < 14; i++) {
            int got = search.group(i / 2, i % 2 == 1);
            Check.due("find(" + from + "), bound " + i + what, got, bounds == null ? Check.NONE : bounds[i]);
        }
        for (int to = from; to <= text.length(); to++) {
            Check.due("whole(" + from + ", " + to + ")" + what, search.whole(from, to), model.whole(text, from, to) ? 1 : 0);
        }
    }

    private String text() {
        StringBuilder text = new StringBuilder();
        int length = dice.roll(20) == 0 ? 23 + dice.roll(8) : dice.roll(SHORT + 1);
        for (int i = length; i > 0; i--) {
            text.append(dice.pick(signs));
        }
        return text.toString();
    }

    private Model.Part choice(int depth) {
        List<Model.Part> rows = new ArrayList<>();
        for (int i = dice.roll(2) == 0 ? dice.roll(3) + 1 : 1; i > 0; i--) {
            rows.add(row(depth));
        }
        return new Model.Choice(rows);
    }

    private Model.Part row(int depth) {
        List<Model.Part> pieces = new ArrayList<>();
        for (int i = dice.roll(10) == 0 ? 0 : dice.roll(heavy ? 2 : 3) + 1; i > 0; i--) {
            pieces.add(piece(depth));
        }
        return new Model.Row(pieces);
    }

    private Model.Part piece(int depth) {
        Model.Part atom = atom(depth);
        boolean sparing = dice.roll(2) == 0;
        switch (heavy ? 3 + dice.roll(3) : dice.roll(10)) {
            case 0:
                return new Model.Repeat(atom, "*", 0, 0, sparing);
            case 1:
                return new Model.Repeat(atom, "+", 1, 1, sparing);
            case 2:
                return new Model.Repeat(atom, "?", 0, 1, sparing);
            case 3:
                int times = times();
                return new Model.Repeat(atom, "{" + times + "}", times, times, sparing);
            case 4:
                int most = times();
                int least = dice.roll(most + 1);
                return new Model.Repeat(atom, "{" + least + "," + most + "}", least, most, sparing);
            default:
                return atom;
        }
    }

    private int times() {
        return heavy ? 3 + dice.roll(4) : 1 + dice.roll(dice.roll(2) == 0 ? 6 : 3);
    }

    private Model.Part atom(int depth) {
        if (depth > 0 && groups < 6 && dice.roll(2) == 0) {
            groups++;
            int number = groups;
            return new Model.Group(number, choice(depth - 1));
        }
        switch (dice.roll(30)) {
            case 0:
                return new Model.Edge("^");
            case 1:
                return new Model.Edge("$");
            case 2:
                return new Model.Sign(".", "", true);
            case 3:
                return new Model.Sign("[a-b]", "ab", false);
            case 4:
                return new Model.Sign("[^a]", "a", true);
            case 5:
                return new Model.Sign("[^ba-b~]", "ab~", true);
            case 6:
                return new Model.Sign("[(a c]", "(a c", false);
            default:
                char sign = dice.pick(signs);
                return new Model.Sign(String.valueOf(sign), String.valueOf(sign), false);
        }
    }
}
