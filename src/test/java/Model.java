import java.util.ArrayList;
import java.util.List;

/**
 * The document's rules once more, written down as trees with the plainest search: every way is tried in the
 * order of preference. Too slow for use, and for that reason easy to hold against the document.
 */
final class Model {
    /** Thrown when a search has tried so many ways that it is given up. */
    static final class TooDear extends RuntimeException {
        private static final long serialVersionUID = 1L;
    }

    /** What is still to be matched behind a part; answers whether this ends well. */
    interface Rest {
        boolean from(int place);
    }

    /** A part of a pattern: how it is written, and what the document says of it. */
    interface Part {
        String written();

        int size();

        boolean canBeEmpty();

        boolean isEndless();

        boolean match(Run run, int place, Rest rest);
    }

    /** One search over a text; holds what the groups have caught on the way that is tried. */
    static final class Run {
        final String text;
        final int[] begins = {-2, -2, -2, -2, -2, -2, -2};
        final int[] ends = {-2, -2, -2, -2, -2, -2, -2};
        private int tries = 0;

        Run(String text) {
            this.text = text;
        }

        void count() {
            tries++;
            if (tries > 20000) {
                throw new TooDear();
            }
        }
    }

    record Sign(String written, String signs, boolean others) implements Part {
        public int size() {
            return 1;
        }

        public boolean canBeEmpty() {
            return false;
        }

        public boolean isEndless() {
            return false;
        }

        public boolean match(Run run, int place, Rest rest) {
            run.count();
            boolean fits = place < run.text.length() && signs.indexOf(run.text.charAt(place)) >= 0 != others;
            return fits && rest.from(place + 1);
        }
    }

    record Edge(String written) implements Part {
        public int size() {
            return 1;
        }

        public boolean canBeEmpty() {
            return true;
        }

        public boolean isEndless() {
            return false;
        }

        public boolean match(Run run, int place, Rest rest) {
            run.count();
            return place == (written.equals("^") ? 0 : run.text.length()) && rest.from(place);
        }
    }

    record Group(int number, Part choice) implements Part {
        public String written() {
            return "(" + choice.written() + ")";
        }

        public int size() {
            return 2 + choice.size();
        }

        public boolean canBeEmpty() {
            return choice.canBeEmpty();
        }

        public boolean isEndless() {
            return choice.isEndless();
        }

        public boolean match(Run run, int place, Rest rest) {
            return choice.match(run, place, end -> {
                int oldBegin = run.begins[number];
                int oldEnd = run.ends[number];
                run.begins[number] = place;
                run.ends[number] = end;
                if (rest.from(end)) {
                    return true;
                }
                run.begins[number] = oldBegin;
                run.ends[number] = oldEnd;
                return false;
            });
        }
    }

    record Choice(List<Part> rows) implements Part {
        public String written() {
            StringBuilder all = new StringBuilder();
            for (int i = 0; i < rows.size(); i++) {
                all.append(i == 0 ? "" : "|").append(rows.get(i).written());
            }
            return all.toString();
        }

        public int size() {
            return rows.stream().mapToInt(Part::size).sum() + 2 * (rows.size() - 1);
        }

        public boolean canBeEmpty() {
            return rows.stream().anyMatch(Part::canBeEmpty);
        }

        public boolean isEndless() {
            return rows.stream().anyMatch(Part::isEndless);
        }

        public boolean match(Run run, int place, Rest rest) {
            return rows.stream().anyMatch(row -> row.match(run, place, rest));
        }
    }

    record Row(List<Part> pieces) implements Part {
        public String written() {
            StringBuilder all = new StringBuilder();
            pieces.forEach(piece -> all.append(piece.written()));
            return all.toString();
        }

        public int size() {
            return pieces.stream().mapToInt(Part::size).sum();
        }

        public boolean canBeEmpty() {
            return pieces.stream().allMatch(Part::canBeEmpty);
        }

        public boolean isEndless() {
            return pieces.stream().anyMatch(Part::isEndless);
        }

        public boolean match(Run run, int place, Rest rest) {
            return matchFrom(run, 0, place, rest);
        }

        private boolean matchFrom(Run run, int piece, int place, Rest rest) {
            if (piece == pieces.size()) {
                return rest.from(place);
            }
            return pieces.get(piece).match(run, place, next -> matchFrom(run, piece + 1, next, rest));
        }
    }

    record Repeat(Part atom, String sign, int least, int most, boolean sparing) implements Part {
        public String written() {
            return atom.written() + sign + (sparing ? "?" : "");
        }

        private boolean loops() {
            return sign.equals("*") || sign.equals("+");
        }

        public int size() {
            return sign.length() == 1 ? atom.size() + 2 : most * atom.size() + 2 * (most - least);
        }

        public boolean canBeEmpty() {
            return sign.equals("*") || sign.equals("?") || least == 0 || atom.canBeEmpty();
        }

        public boolean isEndless() {
            return atom.isEndless() || loops() && atom.canBeEmpty();
        }

        public boolean match(Run run, int place, Rest rest) {
            return matchFrom(run, 0, place, rest);
        }

        private boolean matchFrom(Run run, int done, int place, Rest rest) {
            run.count();
            Rest again = next -> matchFrom(run, done + 1, next, rest);
            if (done < least) {
                return atom.match(run, place, again);
            }
            if (!loops() && done == most) {
                return rest.from(place);
            }
            if (sparing) {
                return rest.from(place) || atom.match(run, place, again);
            }
            return atom.match(run, place, again) || rest.from(place);
        }
    }

    private final Part pattern;

    Model(Part pattern) {
        this.pattern = pattern;
    }

    /** Where the match at a place and its groups 1 to 6 begin and end, or null without a match. */
    private int[] matchAt(String text, int place) {
        Run run = new Run(text);
        int[] end = new int[1];
        boolean matched = pattern.match(run, place, at -> {
            end[0] = at;
            return true;
        });
        if (!matched) {
            return null;
        }
        int[] bounds = new int[14];
        for (int group = 1; group <= 6; group++) {
            bounds[2 * group] = run.begins[group];
            bounds[2 * group + 1] = run.ends[group];
        }
        bounds[0] = place;
        bounds[1] = end[0];
        return bounds;
    }

    int[] find(String text, int from) {
        for (int place = from; place <= text.length(); place++) {
            int[] bounds = matchAt(text, place);
            if (bounds != null) {
                return bounds;
            }
        }
        return null;
    }

    boolean whole(String text, int from, int to) {
        return pattern.match(new Run(text), from, at -> at == to);
    }

    List<int[]> allMatches(String text) {
        List<int[]> all = new ArrayList<>();
        int[] bounds = find(text, 0);
        while (bounds != null) {
            all.add(bounds);
            int from = bounds[1] + (bounds[0] == bounds[1] ? 1 : 0);
            bounds = from > text.length() ? null : find(text, from);
        }
        return all;
    }

    String replace(String text, int group) {
        StringBuilder output = new StringBuilder();
        int copied = 0;
        for (int[] bounds : allMatches(text)) {
            output.append(text, copied, bounds[0]);
            if (bounds[2 * group] >= 0) {
                output.append(text, bounds[2 * group], bounds[2 * group + 1]);
            }
            copied = bounds[1];
        }
        return output.append(text.substring(copied)).toString();
    }
}
