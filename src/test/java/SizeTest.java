/** The terms CAN BE EMPTY and SIZE, sentence by sentence. */
public final class SizeTest {
    public static void main(String[] args) {
        edgesCanBeEmpty();
        signsCannotBeEmpty();
        groupsWithAnEmptyRow();
        piecesThatMayBeLeftOut();
        piecesThatTakeTheirAtom();
        sizeOfAtoms();
        sizeOfSimpleRepetitions();
        sizeOfBraces();
        sizeOfRows();
        sizeOfChoices();
        Check.end();
    }

    /** An atom CAN BE EMPTY if '*' and '+' behind it are ENDLESS; so does the text of the document tell it. */
    private static void canBeEmpty(String atom, boolean due) {
        String[] loops = {"*", "+", "*?", "+?"};
        for (String loop : loops) {
            int answer = Check.withPattern(atom + loop).compile();
            Check.due("compile() of " + atom + loop + " is ENDLESS", answer == Check.ENDLESS, due);
            Check.due("compile() of " + atom + loop + " is done", answer >= 0, !due);
        }
        String[] others = {"", "?", "??", "{2}", "{0,2}", "{2}?", "{1,2}?"};
        for (String other : others) {
            Check.due("compile() of " + atom + other + " is done", Check.withPattern(atom + other).compile() >= 0, true);
        }
    }

    private static void edgesCanBeEmpty() {
        Check.sentence("An atom or piece CAN BE EMPTY if it could match an empty stretch, '^' and '$' always counting so: '^', '$'");
        canBeEmpty("^", true);
        canBeEmpty("$", true);
        canBeEmpty("(^)", true);
        canBeEmpty("($)", true);
        canBeEmpty("(a|^)", true);
        canBeEmpty("(^$)", true);
        canBeEmpty("(^a)", false);
        canBeEmpty("(a$)", false);
        canBeEmpty("a^", true);
    }

    private static void signsCannotBeEmpty() {
        Check.sentence("An atom or piece CAN BE EMPTY if it could match an empty stretch");
        canBeEmpty("a", false);
        canBeEmpty(".", false);
        canBeEmpty("[a]", false);
        canBeEmpty("[^a]", false);
        canBeEmpty("[^ -Z_-~\\]", false);
        canBeEmpty("(a)", false);
    }

    private static void groupsWithAnEmptyRow() {
        Check.sentence("a group if one of its rows consists of pieces that all CAN BE EMPTY");
        canBeEmpty("()", true);
        canBeEmpty("(|)", true);
        canBeEmpty("(a|)", true);
        canBeEmpty("(|a)", true);
        canBeEmpty("(a||b)", true);
        canBeEmpty("(a|b)", false);
        canBeEmpty("(a?b?|c)", true);
        canBeEmpty("(c|a?b?)", true);
        canBeEmpty("(a?b)", false);
        canBeEmpty("(ab?)", false);
        canBeEmpty("(a?b|cd?)", false);
        canBeEmpty("(())", true);
        canBeEmpty("((()))", true);
        canBeEmpty("(()a)", false);
        canBeEmpty("((a)|(b|()))", true);
        canBeEmpty("(((((())))))", true);
        canBeEmpty("((((((a))))))", false);
    }

    private static void piecesThatMayBeLeftOut() {
        Check.sentence("a piece with '*', '?' or m = 0");
        canBeEmpty("(a*)", true);
        canBeEmpty("(a*?)", true);
        canBeEmpty("(a?)", true);
        canBeEmpty("(a??)", true);
        canBeEmpty("(a{0,1})", true);
        canBeEmpty("(a{0,6}?)", true);
        canBeEmpty("((ab)*)", true);
    }

    private static void piecesThatTakeTheirAtom() {
        Check.sentence("and one with '+', '{m}' or '{m,n}' if its atom CAN BE EMPTY.");
        canBeEmpty("(a+)", false);
        canBeEmpty("(a+?)", false);
        canBeEmpty("(a{1})", false);
        canBeEmpty("(a{2,3})", false);
        canBeEmpty("((a?){2})", true);
        canBeEmpty("((a?){1,3})", true);
        canBeEmpty("((){6}?)", true);
        canBeEmpty("(^{2})", true);
        Check.notReady("((a?)+)", Check.ENDLESS);
        Check.notReady("((a?)+)?", Check.ENDLESS);
    }

    private static void sizeOfAtoms() {
        Check.sentence("SIZE of an atom: a group 2 and the SIZE of its choice, else 1.");
        String[] ones = {"a", ".", "^", "$", "[a]", "[^a-z09]"};
        for (String one : ones) {
            Check.compiles(one, 0, 1);
            Check.compiles("(" + one + ")", 1, 3);
        }
        Check.compiles("()", 1, 2);
        Check.compiles("(ab)", 1, 4);
        Check.compiles("(a|b)", 1, 6);
        Check.compiles("(((((())))))", 6, 12);
    }

    private static void sizeOfSimpleRepetitions() {
        Check.sentence("Of a piece: with '*', '+', '?' 2 more than its atom");
        String[] signs = {"*", "+", "?", "*?", "+?", "??"};
        for (String sign : signs) {
            Check.compiles("a" + sign, 0, 3);
            Check.compiles("(ab)" + sign, 1, 6);
            Check.compiles("(a" + sign + "b)" + sign, 1, 8);
        }
    }

    private static void sizeOfBraces() {
        Check.sentence("with '{m,n}' n times the atom's SIZE, and 2 times (n - m) more.");
        for (int most = 1; most <= 6; most++) {
            for (int least = 0; least <= most; least++) {
                String braces = "{" + least + "," + most + "}";
                Check.compiles("a" + braces, 0, most + 2 * (most - least));
                Check.compiles("a" + braces + "?", 0, most + 2 * (most - least));
                Check.compiles("(ab)" + braces, 1, 4 * most + 2 * (most - least));
            }
            Check.compiles("(ab){" + most + "}", 1, 4 * most);
        }
        Check.compiles("((a{1,2}){2,3}){1,2}", 2, 46);
        Check.compiles("(){6}", 1, 12);
    }

    private static void sizeOfRows() {
        Check.sentence("Of a row the sum of its pieces");
        Check.compiles("", 0, 0);
        Check.compiles("ab*c{2}(d)", 1, 9);
        Check.compiles("a".repeat(28), 0, 28);
    }

    private static void sizeOfChoices() {
        Check.sentence("of a choice that of its rows and 2 for each '|'.");
        Check.compiles("|", 0, 2);
        Check.compiles("||", 0, 4);
        Check.compiles("a|b", 0, 4);
        Check.compiles("ab|c|", 0, 7);
        Check.compiles("(|)", 1, 4);
        Check.compiles("(a|bc){2}|d", 1, 17);
        Check.compiles("|".repeat(28), 0, 56);
    }
}
