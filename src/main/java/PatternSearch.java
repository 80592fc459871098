import java.util.Arrays;

/**
 * Patterns with alternatives, groups, and greedy and sparing repetitions, searched for in a short text.
 *
 * A compiled pattern is a row of steps. For every step the set of places is worked out from which the
 * rest of the pattern can still be matched; the preferred way is then walked without ever going back,
 * so that no pattern can make a call slow.
 */
public final class PatternSearch {
    public static final int REFUSED = -1;
    public static final int NONE = -2;
    public static final int BAD = -3;
    public static final int ENDLESS = -4;
    public static final int LARGE = -5;

    private static final int FIRST_SIGN = 32;
    private static final int LAST_SIGN = 126;
    private static final int PATTERN_LIMIT = 28;
    private static final int TEXT_LIMIT = 30;
    private static final int SIZE_LIMIT = 120;
    private static final int GROUP_LIMIT = 6;

    private final Signs patternSigns;
    private final Signs textSigns;
    private final Signs outputSigns;
    private final Matcher matcher;
    private final Bounds found;
    private final Bounds current;
    private boolean ready;
    private int readySize;

    public PatternSearch() {
        patternSigns = new Signs(PATTERN_LIMIT);
        textSigns = new Signs(TEXT_LIMIT);
        // A group's stretch lies inside its match, so replacing never makes the text longer.
        outputSigns = new Signs(TEXT_LIMIT);
        matcher = new Matcher();
        found = new Bounds();
        current = new Bounds();
        ready = false;
        readySize = 0;
    }

    public int pattern(int sign) {
        if (!isSign(sign) || patternSigns.isFull()) {
            return REFUSED;
        }
        patternSigns.add(sign);
        ready = false;
        return patternSigns.length();
    }

    public int newPattern() {
        patternSigns.clear();
        ready = false;
        return 0;
    }

    public int compile() {
        ready = false;
        Reader reader = new Reader(patternSigns);
        Choice choice = reader.readChoice();
        if (reader.faultPlace() != NONE) {
            return BAD;
        }
        if (reader.isEndless()) {
            return ENDLESS;
        }
        if (choice.size() > SIZE_LIMIT) {
            return LARGE;
        }
        matcher.load(choice);
        readySize = choice.size();
        ready = true;
        found.clear();
        return reader.groupCount();
    }

    public int fault() {
        Reader reader = new Reader(patternSigns);
        reader.readChoice();
        return reader.faultPlace();
    }

    public int text(int sign) {
        if (!isSign(sign) || textSigns.isFull()) {
            return REFUSED;
        }
        textSigns.add(sign);
        found.clear();
        return textSigns.length();
    }

    public int newText() {
        textSigns.clear();
        found.clear();
        return 0;
    }

    public int find(int from) {
        if (from < 0 || from > textSigns.length() || !ready) {
            return REFUSED;
        }
        matcher.aimAnywhere(textSigns);
        matcher.seek(from, found);
        return found.begin(0);
    }

    public int group(int group, boolean end) {
        if (!isGroup(group) || !ready) {
            return REFUSED;
        }
        return end ? found.end(group) : found.begin(group);
    }

    public int whole(int from, int to) {
        if (from < 0 || to < from || to > textSigns.length() || !ready) {
            return REFUSED;
        }
        matcher.aimAt(textSigns, to);
        return matcher.leadsOn(from) ? 1 : 0;
    }

    public int matches() {
        if (!ready) {
            return REFUSED;
        }
        matcher.aimAnywhere(textSigns);
        int count = 0;
        int from = 0;
        while (count <= TEXT_LIMIT && matcher.seek(from, current)) {
            from = current.placeBehind();
            count++;
        }
        return count;
    }

    public int replace(int group) {
        if (!isGroup(group) || !ready) {
            return REFUSED;
        }
        matcher.aimAnywhere(textSigns);
        outputSigns.clear();
        int copied = 0;
        int from = 0;
        for (int count = 0; count <= TEXT_LIMIT && matcher.seek(from, current); count++) {
            outputSigns.addStretch(textSigns, copied, current.begin(0));
            outputSigns.addStretch(textSigns, current.begin(group), current.end(group));
            copied = current.end(0);
            from = current.placeBehind();
        }
        outputSigns.addStretch(textSigns, copied, textSigns.length());
        return outputSigns.length();
    }

    public int output(int i) {
        return outputSigns.at(i);
    }

    public int state(int what) {
        switch (what) {
            case 0:
                return patternSigns.length();
            case 1:
                return textSigns.length();
            case 2:
                return outputSigns.length();
            case 3:
                return ready ? 1 : 0;
            case 4:
                return ready ? readySize : NONE;
            default:
                return REFUSED;
        }
    }

    private static boolean isSign(int sign) {
        return sign >= FIRST_SIGN && sign <= LAST_SIGN;
    }

    private static boolean isGroup(int group) {
        return group >= 0 && group <= GROUP_LIMIT;
    }

    /** A row of signs that grows at its end up to a limit. */
    private static final class Signs {
        private final int[] row;
        private int length;

        Signs(int limit) {
            row = new int[limit];
            length = 0;
        }

        int length() {
            return length;
        }

        boolean isFull() {
            return length >= row.length;
        }

        int at(int place) {
            return place >= 0 && place < length ? row[place] : NONE;
        }

        void clear() {
            length = 0;
        }

        void add(int sign) {
            if (!isFull()) {
                row[length] = sign;
                length++;
            }
        }

        /** A group that caught nothing has NONE for both bounds, which is an empty stretch here. */
        void addStretch(Signs source, int begin, int end) {
            for (int place = begin; place < end; place++) {
                add(source.at(place));
            }
        }
    }

    /** Where a match and its groups begin and end; NONE for what caught nothing, and for all without a match. */
    private static final class Bounds {
        private final int[] places;

        Bounds() {
            places = new int[2 * (GROUP_LIMIT + 1)];
            Arrays.fill(places, NONE);
        }

        void clear() {
            Arrays.fill(places, NONE);
        }

        static int beginSlot(int group) {
            return 2 * group;
        }

        static int endSlot(int group) {
            return 2 * group + 1;
        }

        int begin(int group) {
            return inSlot(beginSlot(group));
        }

        int end(int group) {
            return inSlot(endSlot(group));
        }

        void mark(int slot, int place) {
            if (slot >= 0 && slot < places.length) {
                places[slot] = place;
            }
        }

        /** The place from which the search for the next of all matches goes on. */
        int placeBehind() {
            return begin(0) == end(0) ? end(0) + 1 : end(0);
        }

        private int inSlot(int slot) {
            return slot >= 0 && slot < places.length ? places[slot] : NONE;
        }
    }

    /** Rows of which one is matched, an earlier one preferred. Chained from the last, as steps are made from the end. */
    private static final class Choice {
        private Row lastRow;
        private int size;
        private boolean emptyRow;

        void add(Row row) {
            size += row.size + (lastRow == null ? 0 : 2);
            emptyRow = emptyRow || row.canBeEmpty;
            row.before = lastRow;
            lastRow = row;
        }

        int size() {
            return size;
        }

        boolean canBeEmpty() {
            return emptyRow;
        }
    }

    /** Pieces that are matched one after another, chained from the last. */
    private static final class Row {
        private Row before;
        private Piece lastPiece;
        private int size;
        private boolean canBeEmpty = true;

        void add(Piece piece) {
            size += piece.size();
            canBeEmpty = canBeEmpty && piece.canBeEmpty();
            piece.before = lastPiece;
            lastPiece = piece;
        }
    }

    /** An atom with its repetition; '?' is '{0,1}', and an atom alone is '{1,1}'. */
    private static final class Piece {
        private final Atom atom;
        private Piece before;
        private int least = 1;
        private int most = 1;
        private boolean unbounded;
        private boolean sparing;

        Piece(Atom atom) {
            this.atom = atom;
        }

        void repeat(int from, int to) {
            least = from;
            most = to;
        }

        void repeatUnbounded(int from) {
            least = from;
            unbounded = true;
        }

        int size() {
            return unbounded ? atom.size() + 2 : most * atom.size() + 2 * (most - least);
        }

        boolean canBeEmpty() {
            return least == 0 || atom.canBeEmpty();
        }

        boolean isEndless() {
            return unbounded && atom.canBeEmpty();
        }
    }

    /**
     * What a repetition can stand behind: a group if it has a choice inside, else one step of the program.
     * A sign of code c is taken if bit c of the 128 bits in high and low is set.
     */
    private static final class Atom {
        private final int kind;
        private long low;
        private long high;
        private int group;
        private Choice inner;

        Atom(int kind) {
            this.kind = kind;
        }

        void takeSigns(int first, int last) {
            for (int sign = first; sign <= last; sign++) {
                if (sign < 64) {
                    low |= 1L << sign;
                } else {
                    high |= 1L << (sign - 64);
                }
            }
        }

        void takeOthers() {
            low = ~low;
            high = ~high;
        }

        void enclose(int number, Choice choice) {
            group = number;
            inner = choice;
        }

        int size() {
            return inner == null ? 1 : inner.size() + 2;
        }

        boolean canBeEmpty() {
            return inner == null ? kind != Program.SIGN : inner.canBeEmpty();
        }
    }

    /**
     * Reads a pattern, looking one sign ahead and never further, so that the first sign it can't go on with
     * is the first one that can't stand. It is stuck there: it sees no sign any more, and what it has read is of no use.
     */
    private static final class Reader {
        private static final String NOT_PLAIN = ".[]^$|()*+?{}";
        private static final String NOT_IN_CLASS = "[]^-";
        private static final int DIGIT_LIMIT = 6;

        private final Signs signs;
        private int place;
        private int groups;
        private boolean endless;
        private boolean stuck;

        Reader(Signs signs) {
            this.signs = signs;
        }

        /** To be asked behind readChoice: a sign that is left then has no way to go on with it, such as a ')' too many. */
        int faultPlace() {
            return stuck || place < signs.length() ? place : NONE;
        }

        boolean isEndless() {
            return endless;
        }

        int groupCount() {
            return groups;
        }

        /** Calls itself through the groups only, and beginsAtom lets no more than six of them begin. */
        private Choice readChoice() {
            Choice choice = new Choice();
            choice.add(readRow());
            for (int bars = 0; bars < PATTERN_LIMIT && take('|'); bars++) {
                choice.add(readRow());
            }
            return choice;
        }

        private Row readRow() {
            Row row = new Row();
            for (int pieces = 0; pieces < PATTERN_LIMIT && beginsAtom(peek()); pieces++) {
                row.add(readPiece());
            }
            return row;
        }

        private Piece readPiece() {
            Piece piece = new Piece(readAtom());
            if (readRepetition(piece)) {
                piece.sparing = take('?');
            }
            endless = endless || piece.isEndless();
            return piece;
        }

        private boolean readRepetition(Piece piece) {
            if (take('*')) {
                piece.repeatUnbounded(0);
            } else if (take('+')) {
                piece.repeatUnbounded(1);
            } else if (take('?')) {
                piece.repeat(0, 1);
            } else if (take('{')) {
                readBraces(piece);
            } else {
                return false;
            }
            return true;
        }

        private void readBraces(Piece piece) {
            int least = readDigit(0);
            int most = least;
            if (take(',')) {
                most = readDigit(Math.max(1, least));
            } else if (least == 0) {
                stuck = true;
            }
            expect('}');
            piece.repeat(least, most);
        }

        private int readDigit(int least) {
            int digit = peek() - '0';
            if (digit < least || digit > DIGIT_LIMIT) {
                stuck = true;
                return least;
            }
            place++;
            return digit;
        }

        private Atom readAtom() {
            int sign = peek();
            place++;
            switch (sign) {
                case '(':
                    return readGroup();
                case '[':
                    return readClass();
                case '^':
                    return new Atom(Program.START);
                case '$':
                    return new Atom(Program.FINISH);
                case '.':
                    return signAtom(FIRST_SIGN, LAST_SIGN);
                default:
                    return signAtom(sign, sign);
            }
        }

        private static Atom signAtom(int first, int last) {
            Atom atom = new Atom(Program.SIGN);
            atom.takeSigns(first, last);
            return atom;
        }

        private Atom readGroup() {
            groups++;
            int number = groups;
            Atom atom = new Atom(Program.MARK);
            atom.enclose(number, readChoice());
            expect(')');
            return atom;
        }

        private Atom readClass() {
            Atom atom = new Atom(Program.SIGN);
            boolean others = take('^');
            readItem(atom);
            for (int items = 1; items < PATTERN_LIMIT && isItemSign(peek()); items++) {
                readItem(atom);
            }
            expect(']');
            if (others) {
                atom.takeOthers();
            }
            return atom;
        }

        private void readItem(Atom atom) {
            int first = readItemSign(FIRST_SIGN);
            int last = take('-') ? readItemSign(first) : first;
            atom.takeSigns(first, last);
        }

        private int readItemSign(int least) {
            int sign = peek();
            if (!isItemSign(sign) || sign < least) {
                stuck = true;
                return least;
            }
            place++;
            return sign;
        }

        private boolean beginsAtom(int sign) {
            if (sign == '(') {
                return groups < GROUP_LIMIT;
            }
            return sign == '[' || sign == '.' || sign == '^' || sign == '$' || isPlain(sign);
        }

        private static boolean isPlain(int sign) {
            return isSign(sign) && NOT_PLAIN.indexOf((char) sign) < 0;
        }

        private static boolean isItemSign(int sign) {
            return isSign(sign) && NOT_IN_CLASS.indexOf((char) sign) < 0;
        }

        private int peek() {
            return stuck ? NONE : signs.at(place);
        }

        private boolean take(int sign) {
            if (peek() != sign) {
                return false;
            }
            place++;
            return true;
        }

        private void expect(int sign) {
            if (!take(sign)) {
                stuck = true;
            }
        }
    }

    /**
     * A pattern as steps. They are made from the pattern's end, since a step has to know what comes behind it;
     * so each leads to steps made before it, but for the way from a loop's fork into its body.
     */
    private static final class Program {
        private static final int DONE = 0;
        private static final int SIGN = 1;
        private static final int START = 2;
        private static final int FINISH = 3;
        private static final int MARK = 4;
        private static final int FORK = 5;

        /** No part of a pattern has more steps than its SIZE, and one step stands for the end. */
        private static final int LIMIT = SIZE_LIMIT + 1;

        private final int[] kinds = new int[LIMIT];
        private final int[] nexts = new int[LIMIT];
        private final int[] others = new int[LIMIT];
        private final int[] slots = new int[LIMIT];
        private final long[] lows = new long[LIMIT];
        private final long[] highs = new long[LIMIT];
        private int count;
        private int first;

        void build(Choice choice) {
            count = 0;
            int done = addStep(DONE, 0);
            first = addChoice(choice, done, 0);
        }

        boolean takes(int step, int sign) {
            long bits = sign < 64 ? lows[step] >>> sign : highs[step] >>> (sign - 64);
            return (bits & 1) == 1;
        }

        private int addChoice(Choice choice, int next, int depth) {
            int entry = next;
            for (Row row = choice.lastRow; row != null; row = row.before) {
                int rowEntry = addRow(row, next, depth);
                entry = row == choice.lastRow ? rowEntry : addFork(rowEntry, entry);
            }
            return entry;
        }

        private int addRow(Row row, int next, int depth) {
            int entry = next;
            for (Piece piece = row.lastPiece; piece != null; piece = piece.before) {
                entry = piece.unbounded ? addLoop(piece, entry, depth) : addCopies(piece, entry, depth);
            }
            return entry;
        }

        private int addLoop(Piece piece, int next, int depth) {
            int fork = addFork(next, next);
            int body = addAtom(piece.atom, fork, depth);
            if (piece.sparing) {
                others[fork] = body;
            } else {
                nexts[fork] = body;
            }
            return piece.least == 0 ? fork : body;
        }

        private int addCopies(Piece piece, int next, int depth) {
            int entry = next;
            for (int copy = piece.least; copy < piece.most; copy++) {
                int body = addAtom(piece.atom, entry, depth);
                entry = piece.sparing ? addFork(next, body) : addFork(body, next);
            }
            for (int copy = 0; copy < piece.least; copy++) {
                entry = addAtom(piece.atom, entry, depth);
            }
            return entry;
        }

        private int addAtom(Atom atom, int next, int depth) {
            if (atom.inner != null) {
                return addGroup(atom, next, depth);
            }
            int step = addStep(atom.kind, next);
            lows[step] = atom.low;
            highs[step] = atom.high;
            return step;
        }

        private int addGroup(Atom atom, int next, int depth) {
            if (depth >= GROUP_LIMIT) {
                return next;
            }
            int end = addMark(Bounds.endSlot(atom.group), next);
            int entry = addChoice(atom.inner, end, depth + 1);
            return addMark(Bounds.beginSlot(atom.group), entry);
        }

        private int addMark(int slot, int next) {
            int step = addStep(MARK, next);
            slots[step] = slot;
            return step;
        }

        private int addFork(int preferred, int other) {
            int step = addStep(FORK, preferred);
            others[step] = other;
            return step;
        }

        private int addStep(int kind, int next) {
            int step = Math.min(count, LIMIT - 1);
            kinds[step] = kind;
            nexts[step] = next;
            count = step + 1;
            return step;
        }
    }

    /**
     * Runs a program over a text. Sets of places are held as bits, place p as bit p; 31 places fit in an int.
     * An aim has to be set, by aimAnywhere or aimAt, before the other questions are asked.
     */
    private static final class Matcher {
        private static final int PLACES = TEXT_LIMIT + 1;

        private final Program program = new Program();
        /** For each sign step the places of the signs that it takes. */
        private final int[] fits = new int[Program.LIMIT];
        /** For each step the places from which it can lead on to the aim. */
        private final int[] leads = new int[Program.LIMIT];
        private int length;

        void load(Choice choice) {
            program.build(choice);
        }

        void aimAnywhere(Signs text) {
            aim(text, -1);
        }

        void aimAt(Signs text, int end) {
            aim(text, 1 << end);
        }

        boolean leadsOn(int place) {
            return leadsOnFrom(program.first, place);
        }

        /** Tells whether there is a match at a place from 'from' on, and puts the first one's bounds into 'bounds'. */
        boolean seek(int from, Bounds bounds) {
            bounds.clear();
            for (int place = from; place <= length; place++) {
                if (leadsOn(place)) {
                    walk(place, bounds);
                    return true;
                }
            }
            return false;
        }

        private void aim(Signs text, int ends) {
            length = text.length();
            for (int step = 0; step < program.count; step++) {
                fits[step] = program.kinds[step] == Program.SIGN ? fittingPlaces(step, text) : 0;
                leads[step] = 0;
            }
            // Each round but the last finds a new place for some step.
            boolean grown = true;
            for (int round = 0; grown && round <= Program.LIMIT * PLACES; round++) {
                grown = spread(ends);
            }
        }

        private int fittingPlaces(int step, Signs text) {
            int places = 0;
            for (int place = 0; place < length; place++) {
                if (program.takes(step, text.at(place))) {
                    places |= 1 << place;
                }
            }
            return places;
        }

        private boolean spread(int ends) {
            boolean grown = false;
            for (int step = 0; step < program.count; step++) {
                int places = leadingPlaces(step, ends);
                grown = grown || places != leads[step];
                leads[step] = places;
            }
            return grown;
        }

        private int leadingPlaces(int step, int ends) {
            int behind = leads[program.nexts[step]];
            switch (program.kinds[step]) {
                case Program.DONE:
                    return ends;
                case Program.SIGN:
                    return (behind >>> 1) & fits[step];
                case Program.START:
                    return behind & 1;
                case Program.FINISH:
                    return behind & (1 << length);
                case Program.FORK:
                    return behind | leads[program.others[step]];
                default:
                    return behind;
            }
        }

        private boolean leadsOnFrom(int step, int place) {
            return ((leads[step] >>> place) & 1) == 1;
        }

        /** Ends before its bound, since every round of a loop takes a sign: others are ENDLESS. */
        private void walk(int begin, Bounds bounds) {
            int place = begin;
            int step = program.first;
            for (int i = 0; i < Program.LIMIT * PLACES && program.kinds[step] != Program.DONE; i++) {
                int kind = program.kinds[step];
                if (kind == Program.SIGN) {
                    place++;
                } else if (kind == Program.MARK) {
                    bounds.mark(program.slots[step], place);
                }
                boolean turns = kind == Program.FORK && !leadsOnFrom(program.nexts[step], place);
                step = turns ? program.others[step] : program.nexts[step];
            }
            bounds.mark(Bounds.beginSlot(0), begin);
            bounds.mark(Bounds.endSlot(0), place);
        }
    }
}
