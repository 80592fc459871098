import java.util.ArrayList;
import java.util.List;

/** What the document says of every call: the 512 calls, numbers that are tested first, and what REFUSED leaves as it was. */
public final class RefusalTest {
    private static final String[] PATTERNS = {"", "a", "(a)(b)?", "(a|ab)*?b", "^(a|b)", "(a)|(b)|(x)", "b$"};
    private static final String[] NAMES = {
        "compile", "fault", "find", "find", "group", "group", "whole", "matches", "replace", "output", "state", "text", "pattern",
    };

    /** A call of the face with its numbers. */
    private record Call(String name, int first, int second) {
        int on(PatternSearch search) {
            switch (name) {
                case "pattern":
                    return search.pattern(first);
                case "newPattern":
                    return search.newPattern();
                case "compile":
                    return search.compile();
                case "fault":
                    return search.fault();
                case "text":
                    return search.text(first);
                case "newText":
                    return search.newText();
                case "find":
                    return search.find(first);
                case "group":
                    return search.group(first, second != 0);
                case "whole":
                    return search.whole(first, second);
                case "matches":
                    return search.matches();
                case "replace":
                    return search.replace(first);
                case "output":
                    return search.output(first);
                default:
                    return search.state(first);
            }
        }
    }

    private static final Call[] WRONG_NUMBERS = {
        new Call("pattern", 31, 0), new Call("pattern", 127, 0), new Call("pattern", -1, 0),
        new Call("text", 31, 0), new Call("text", 127, 0), new Call("text", -1, 0),
        new Call("find", -1, 0), new Call("find", 31, 0), new Call("find", Integer.MAX_VALUE, 0),
        new Call("group", -1, 0), new Call("group", 7, 0), new Call("group", -1, 1), new Call("group", 7, 1),
        new Call("whole", -1, 0), new Call("whole", 0, -1), new Call("whole", 1, 0), new Call("whole", 0, 31),
        new Call("whole", 31, 31), new Call("replace", -1, 0), new Call("replace", 7, 0),
        new Call("state", -1, 0), new Call("state", 5, 0),
    };

    private static final Call[] NEED_A_PATTERN = {
        new Call("find", 0, 0), new Call("group", 0, 0), new Call("group", 0, 1), new Call("group", 6, 0),
        new Call("whole", 0, 0), new Call("matches", 0, 0), new Call("replace", 0, 0), new Call("replace", 6, 0),
    };

    public static void main(String[] args) {
        callsOfAnObject();
        numbersFirst();
        refusedWithoutAPattern();
        answeredWithoutAPattern();
        eachRefusedCallChangesNothing();
        runsWithoutTheirRefusedCalls();
        Check.end();
    }

    private static void callsOfAnObject() {
        Check.sentence("An object is used for at most 512 calls after it has been made");
        PatternSearch search = new PatternSearch();
        for (int call = 1; call <= 508; call += 4) {
            Check.due("call " + call + ", newPattern()", search.newPattern(), 0);
            Check.due("call " + (call + 1) + ", pattern('a')", search.pattern('a'), 1);
            Check.due("call " + (call + 2) + ", compile()", search.compile(), 0);
            Check.due("call " + (call + 3) + ", find(0)", search.find(0), Check.NONE);
        }
        Check.due("call 509, text('b')", search.text('b'), 1);
        Check.due("call 510, text('a')", search.text('a'), 2);
        Check.due("call 511, find(0)", search.find(0), 1);
        Check.due("call 512, group(0, true)", search.group(0, true), 2);
    }

    /** All states that differ in what a call may find: READY or not, FOUND or not, full or empty, with an output or without. */
    private static List<PatternSearch> states() {
        List<PatternSearch> all = new ArrayList<>();
        all.add(new PatternSearch());
        all.add(Check.withPattern("a"));
        all.add(Check.ready("", ""));
        all.add(found("()", "", 0));
        all.add(found("(a)(b)?", "xaab", 0));
        all.add(found("(a)(b)?", "xaab", 4));
        all.add(found("a".repeat(28), "a".repeat(30), 1));
        all.add(changed("(a)(b)?", "(", "xaab"));
        all.add(changed("(a)(b)?", "()*", "xaab"));
        all.add(changed("(a)(b)?", "(a{0,6}){6}a", "xaab"));
        all.add(changed("a", "a".repeat(28), "a".repeat(30)));
        return all;
    }

    private static PatternSearch found(String pattern, String text, int from) {
        PatternSearch search = Check.ready(pattern, text);
        search.replace(0);
        search.find(from);
        return search;
    }

    private static PatternSearch changed(String pattern, String next, String text) {
        PatternSearch search = found(pattern, text, 0);
        Check.putPattern(search, next);
        if (next.length() < 28) {
            search.compile();
        }
        return search;
    }

    private static void numbersFirst() {
        Check.sentence("Every call tests its numbers first; numbers out of range answer REFUSED");
        for (Call call : WRONG_NUMBERS) {
            for (PatternSearch search : states()) {
                Check.due(call + " with " + Check.everythingOf(search), call.on(search), Check.REFUSED);
            }
        }
        PatternSearch search = Check.ready("(a)", "bb");
        Check.due("find(0)", search.find(0), Check.NONE);
        Check.due("group(6, false), a number in range", search.group(6, false), Check.NONE);
        Check.due("group(7, false), one that is not", search.group(7, false), Check.REFUSED);
    }

    private static void refusedWithoutAPattern() {
        Check.sentence("and then so do find, group, whole, matches and replace while no pattern is READY.");
        for (PatternSearch search : states()) {
            boolean ready = search.state(3) == 1;
            String all = Check.everythingOf(search);
            for (Call call : NEED_A_PATTERN) {
                Check.due(call + " is REFUSED with " + all, call.on(search) == Check.REFUSED, !ready);
            }
        }
    }

    private static void answeredWithoutAPattern() {
        Check.sentence("and then so do find, group, whole, matches and replace [...] (and no other call)");
        PatternSearch search = changed("(a)(b)?", "(", "xaab");
        Check.due("fault()", search.fault(), 1);
        Check.due("compile()", search.compile(), Check.BAD);
        Check.due("output(0)", search.output(0), (int) 'x');
        Check.due("output(4)", search.output(4), Check.NONE);
        Check.due("output(-1)", search.output(-1), Check.NONE);
        Check.due("state(1)", search.state(1), 4);
        Check.due("state(4)", search.state(4), Check.NONE);
        Check.due("text('a')", search.text('a'), 5);
        Check.due("pattern(')')", search.pattern(')'), 2);
        Check.due("newText()", search.newText(), 0);
        Check.due("newPattern()", search.newPattern(), 0);
    }

    private static void eachRefusedCallChangesNothing() {
        Check.sentence("A call that answers REFUSED changes nothing.");
        List<Call> calls = new ArrayList<>(List.of(WRONG_NUMBERS));
        calls.addAll(List.of(NEED_A_PATTERN));
        calls.add(new Call("pattern", 'a', 0));
        calls.add(new Call("text", 'a', 0));
        int refused = 0;
        for (Call call : calls) {
            for (PatternSearch search : states()) {
                String before = Check.everythingOf(search);
                if (call.on(search) == Check.REFUSED) {
                    refused++;
                    Check.due("all that the face tells behind " + call, Check.everythingOf(search), before);
                }
            }
        }
        Check.due("many calls were REFUSED", refused > 22 * 11 + 5 * 8, true);
    }

    /** Two objects get the same calls, but the second one none of those that the first one REFUSED. */
    private static void runsWithoutTheirRefusedCalls() {
        Check.sentence("A call that answers REFUSED changes nothing.");
        int refused = 0;
        for (int seed = 0; seed < 600; seed++) {
            Dice dice = new Dice(seed);
            String pattern = PATTERNS[dice.roll(PATTERNS.length)];
            PatternSearch all = Check.ready(pattern, "abaab");
            PatternSearch rest = Check.ready(pattern, "abaab");
            for (int i = 0; i < 450; i++) {
                Call call = anyCall(dice);
                int answer = call.on(all);
                if (answer == Check.REFUSED) {
                    refused++;
                } else {
                    Check.due("run " + seed + ", call " + i + ", " + call + " without the refused calls", call.on(rest), answer);
                }
            }
        }
        Check.due("many calls were REFUSED in runs", refused > 10000, true);
    }

    private static Call anyCall(Dice dice) {
        int number = dice.roll(3) == 0 ? dice.roll(40) - 5 : dice.roll(8);
        switch (dice.roll(40)) {
            case 0:
                return new Call("newPattern", 0, 0);
            case 1:
                return new Call("newText", 0, 0);
            case 2:
            case 3:
            case 4:
                return new Call("pattern", dice.pick("aab.|^$()?"), 0);
            case 5:
            case 6:
                return new Call("text", dice.pick("aab"), 0);
            default:
                // Their numbers are out of range for a sign, or nearly so.
                return new Call(NAMES[dice.roll(NAMES.length)], number, dice.roll(31));
        }
    }
}
