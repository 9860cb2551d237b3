/**
 * Sets bilingual editions: pairs of paragraphs on spreads of two facing pages, each page with its
 * own stream of notes. The numbered promises stand in the project's document.
 */
public final class BilingualSetter {
    public static final int INVALID_ARGUMENT = -1;
    public static final int NOT_POSSIBLE = -2;
    public static final int LIMIT_REACHED = -3;
    public static final int NOT_FOUND = -4;

    private static final int MAX_PAIRS = 20;
    private static final int MAX_LINES = 30;
    private static final int MAX_NOTES = 40;
    private static final int MAX_NOTE_LENGTH = 10;
    private static final int MAX_STATES = 6;
    private static final int MAX_ROW = 99;
    private static final int MAX_ASKED_SPREADS = 40;
    // Every segment takes a left line at least, and so does every spread but one of carried lines alone.
    private static final int MAX_SEGMENTS = 600;
    private static final int MAX_SPREADS = 601;
    private static final int SIDES = 2;

    // The settings, as set(what, ..) counts them.
    private static final int HEIGHT = 0;
    private static final int GAP = 1;
    private static final int RULE = 2;
    private static final int LEAST = 3;
    private static final int CARRY = 4;
    private static final int ALIGN = 5;
    private static final int SETTINGS = 6;
    private static final int[] LOWEST = {8, 0, 0, 1, 0, 0};
    private static final int[] HIGHEST = {60, 3, 2, 4, 5, 1};
    private static final int[] INITIAL = {20, 1, 1, 2, 3, 0};

    // The rows of the table of pairs, as pairInfo counts them; rows 0 and 1 are the lines of a side.
    private static final int KEPT = 2;
    private static final int BREAK = 3;
    private static final int PAIR_ROWS = 4;
    private static final int FLAGS = 2;

    // The rows of a table of notes, as noteInfo counts them.
    private static final int NOTE_PAIR = 0;
    private static final int NOTE_LINE = 1;
    private static final int NOTE_LENGTH = 2;
    private static final int NOTE_ROWS = 3;

    // The rows of the table of segments, as segmentInfo counts them.
    private static final int SEGMENT_PAIR = 0;
    private static final int[] SEGMENT_FIRST = {1, 3};
    private static final int[] SEGMENT_LINES = {2, 4};
    private static final int[] SEGMENT_BEGIN = {5, 6};
    private static final int SEGMENT_GOES_ON = 7;
    private static final int SEGMENT_ROWS = 8;

    // The rows of the table of pages, as pageInfo counts them, and one more.
    private static final int PAGE_TEXT = 0;
    private static final int PAGE_NOTE_ROWS = 1;
    private static final int PAGE_BLANK = 2;
    private static final int PAGE_CARRIED_TO = 3;
    private static final int PAGE_CARRIED_FROM = 4;
    private static final int PAGE_NOTES = 5;
    private static final int PAGE_FIRST_NOTE = 6;
    private static final int PAGE_ROWS = 7;
    private static final int PAGE_KINDS = 6;

    private static final int SHOWN_LINE = 10000;
    private static final int SHOWN_NOTE = 20000;
    private static final int SHOWN_RULE = 30000;
    private static final int SHOWN_NUMBER = 100;

    private final Edition edition = new Edition();
    private final History history = new History();
    private final Spreads spreads = new Spreads();
    private final Division division = new Division();

    public BilingualSetter() {
    }

    public int insert(int at, int left, int right) {
        if (!isIn(at, 0, edition.count) || !isIn(left, 1, MAX_LINES) || !isIn(right, 1, MAX_LINES)) {
            return INVALID_ARGUMENT;
        }
        if (edition.count >= MAX_PAIRS) {
            return LIMIT_REACHED;
        }
        beginChange();
        edition.placePair(at, left, right);
        return edition.count;
    }

    public int remove(int pair) {
        if (!edition.hasPair(pair)) {
            return INVALID_ARGUMENT;
        }
        beginChange();
        edition.dropPair(pair);
        return edition.count;
    }

    public int setLines(int pair, int side, int lines) {
        if (!edition.hasPair(pair) || !isSide(side) || !isIn(lines, 1, MAX_LINES)) {
            return INVALID_ARGUMENT;
        }
        if (edition.notes(side).standFrom(pair, lines)) {
            return NOT_POSSIBLE;
        }
        return changePair(pair, side, lines);
    }

    public int setFlag(int pair, int what, int on) {
        if (!edition.hasPair(pair) || !isIn(what, 0, FLAGS - 1) || !isIn(on, 0, 1)) {
            return INVALID_ARGUMENT;
        }
        return changePair(pair, KEPT + what, on);
    }

    public int addNote(int pair, int side, int line, int length) {
        if (!edition.hasLine(pair, side, line) || !isIn(length, 1, MAX_NOTE_LENGTH)) {
            return INVALID_ARGUMENT;
        }
        if (edition.left.count + edition.right.count >= MAX_NOTES) {
            return LIMIT_REACHED;
        }
        beginChange();
        return edition.notes(side).place(pair, line, length);
    }

    public int removeNote(int side, int note) {
        if (!isSide(side) || note < 0) {
            return INVALID_ARGUMENT;
        }
        Notes notes = edition.notes(side);
        if (note >= notes.count) {
            return NOT_FOUND;
        }
        beginChange();
        notes.drop(note);
        return notes.count;
    }

    public int set(int what, int value) {
        if (!isIn(what, 0, SETTINGS - 1) || !isIn(value, LOWEST[what], HIGHEST[what])) {
            return INVALID_ARGUMENT;
        }
        beginChange();
        int previous = edition.settings[what];
        edition.settings[what] = value;
        return previous;
    }

    public int undo() {
        if (history.count <= 0) {
            return NOT_POSSIBLE;
        }
        history.restore(edition);
        forgetResults();
        return history.count;
    }

    public int pairCount() {
        return edition.count;
    }

    public int pairInfo(int pair, int what) {
        if (!edition.hasPair(pair) || !isIn(what, 0, PAIR_ROWS - 1)) {
            return INVALID_ARGUMENT;
        }
        return edition.pairs[what][pair];
    }

    public int noteCount(int side) {
        return isSide(side) ? edition.notes(side).count : INVALID_ARGUMENT;
    }

    public int noteInfo(int side, int note, int what) {
        if (!isSide(side) || note < 0 || !isIn(what, 0, NOTE_ROWS - 1)) {
            return INVALID_ARGUMENT;
        }
        Notes notes = edition.notes(side);
        return note < notes.count ? notes.table[what][note] : NOT_FOUND;
    }

    public int spreadCount() {
        spreads.arrange(edition, edition.settings[HEIGHT]);
        return spreads.count;
    }

    public int segmentCount(int spread) {
        spreads.arrange(edition, edition.settings[HEIGHT]);
        return spreads.has(spread) ? spreads.segmentsOf(spread) : INVALID_ARGUMENT;
    }

    public int segmentInfo(int spread, int segment, int what) {
        spreads.arrange(edition, edition.settings[HEIGHT]);
        if (!spreads.has(spread) || segment < 0 || !isIn(what, 0, SEGMENT_ROWS - 1)) {
            return INVALID_ARGUMENT;
        }
        if (segment >= spreads.segmentsOf(spread)) {
            return NOT_FOUND;
        }
        return spreads.segments[what][spreads.firstSegment[spread] + segment];
    }

    public int pageInfo(int spread, int side, int what) {
        spreads.arrange(edition, edition.settings[HEIGHT]);
        if (!spreads.has(spread) || !isSide(side) || !isIn(what, 0, PAGE_KINDS - 1)) {
            return INVALID_ARGUMENT;
        }
        return spreads.pages[what][SIDES * spread + side];
    }

    public int isOverfull(int spread) {
        spreads.arrange(edition, edition.settings[HEIGHT]);
        return spreads.has(spread) ? spreads.overfull[spread] : INVALID_ARGUMENT;
    }

    public int spreadOf(int pair, int side, int line) {
        if (!edition.hasLine(pair, side, line)) {
            return INVALID_ARGUMENT;
        }
        spreads.arrange(edition, edition.settings[HEIGHT]);
        return spreads.spreadWith(spreads.segmentWith(pair, side, line));
    }

    public int rowOf(int pair, int side, int line) {
        if (!edition.hasLine(pair, side, line)) {
            return INVALID_ARGUMENT;
        }
        spreads.arrange(edition, edition.settings[HEIGHT]);
        return spreads.rowIn(spreads.segmentWith(pair, side, line), side, line);
    }

    public int shown(int spread, int side, int row) {
        spreads.arrange(edition, edition.settings[HEIGHT]);
        if (!spreads.has(spread) || !isSide(side) || !isIn(row, 0, MAX_ROW)) {
            return INVALID_ARGUMENT;
        }
        int text = spreads.textAt(spread, side, row);
        return text != 0 ? text : spreads.noteAt(edition, spread, side, row);
    }

    public int cost() {
        spreads.arrange(edition, edition.settings[HEIGHT]);
        return spreads.blankSquares();
    }

    public int bestCost() {
        division.search(edition);
        return division.isAllowed() ? division.costs[0] : NOT_FOUND;
    }

    public int bestBreak(int group) {
        if (group < 0) {
            return INVALID_ARGUMENT;
        }
        division.search(edition);
        return group < division.groups ? division.firstPairs[group] : NOT_FOUND;
    }

    public int leastHeight(int spreads) {
        if (!isIn(spreads, 1, MAX_ASKED_SPREADS)) {
            return INVALID_ARGUMENT;
        }
        // A greater height can need more spreads, so every height is tried in its turn.
        for (int height = LOWEST[HEIGHT]; height <= HIGHEST[HEIGHT]; height++) {
            this.spreads.arrange(edition, height);
            if (this.spreads.count <= spreads) {
                return height;
            }
        }
        return NOT_FOUND;
    }

    public int overfullWith(int height) {
        if (!isIn(height, LOWEST[HEIGHT], HIGHEST[HEIGHT])) {
            return INVALID_ARGUMENT;
        }
        spreads.arrange(edition, height);
        return spreads.overfullSpreads();
    }

    public int splitPairs() {
        spreads.arrange(edition, edition.settings[HEIGHT]);
        return spreads.splitSegments();
    }

    private int changePair(int pair, int row, int value) {
        beginChange();
        int previous = edition.pairs[row][pair];
        edition.pairs[row][pair] = value;
        return previous;
    }

    private void beginChange() {
        history.record(edition);
        forgetResults();
    }

    private void forgetResults() {
        spreads.height = Spreads.NONE;
        division.isSearched = false;
    }

    private static boolean isIn(int value, int low, int high) {
        return value >= low && value <= high;
    }

    private static boolean isSide(int side) {
        return isIn(side, 0, SIDES - 1);
    }

    private static void openPlace(int[] row, int at, int count) {
        if (isIn(at, 0, count) && count < row.length) {
            System.arraycopy(row, at, row, at + 1, count - at);
        }
    }

    private static void closePlace(int[] row, int at, int count) {
        if (isIn(at, 0, count - 1) && count <= row.length) {
            System.arraycopy(row, at + 1, row, at, count - at - 1);
        }
    }

    private static void copyTable(int[][] from, int[][] to) {
        for (int row = 0; row < from.length && row < to.length; row++) {
            System.arraycopy(from[row], 0, to[row], 0, Math.min(from[row].length, to[row].length));
        }
    }

    /** The notes of one side, ordered by pairs, then by lines, then as they were added. */
    private static final class Notes {
        int count;
        final int[][] table = new int[NOTE_ROWS][MAX_NOTES];

        /** The number of notes that stand before this line of this pair. */
        int before(int pair, int line) {
            return endBefore(0, pair, line);
        }

        /** The same, if it is known that so many notes stand before the line. */
        int endBefore(int known, int pair, int line) {
            int[] pairs = table[NOTE_PAIR];
            int note = known;
            while (note < count
                    && (pairs[note] < pair || pairs[note] == pair && table[NOTE_LINE][note] < line)) {
                note++;
            }
            return note;
        }

        boolean standFrom(int pair, int line) {
            return before(pair, line) < before(pair + 1, 0);
        }

        int place(int pair, int line, int length) {
            int at = before(pair, line + 1);
            if (count >= MAX_NOTES) {
                return at;
            }
            for (int row = 0; row < NOTE_ROWS; row++) {
                openPlace(table[row], at, count);
            }
            table[NOTE_PAIR][at] = pair;
            table[NOTE_LINE][at] = line;
            table[NOTE_LENGTH][at] = length;
            count++;
            return at;
        }

        void drop(int note) {
            for (int row = 0; row < NOTE_ROWS; row++) {
                closePlace(table[row], note, count);
            }
            count--;
        }

        void dropPair(int pair) {
            int from = before(pair, 0);
            for (int note = before(pair + 1, 0) - 1; note >= from; note--) {
                drop(note);
            }
            movePairs(pair, -1);
        }

        void movePairs(int fromPair, int by) {
            for (int note = before(fromPair, 0); note < count; note++) {
                table[NOTE_PAIR][note] += by;
            }
        }

        void copyFrom(Notes other) {
            count = other.count;
            copyTable(other.table, table);
        }
    }

    /** The pairs, the notes and the settings: what a change changes and undo restores. */
    private static final class Edition {
        int count;
        final int[][] pairs = new int[PAIR_ROWS][MAX_PAIRS];
        final Notes left = new Notes();
        final Notes right = new Notes();
        final int[] settings = INITIAL.clone();

        Notes notes(int side) {
            return side == 0 ? left : right;
        }

        boolean hasPair(int pair) {
            return isIn(pair, 0, count - 1);
        }

        boolean hasLine(int pair, int side, int line) {
            return hasPair(pair) && isSide(side) && isIn(line, 0, pairs[side][pair] - 1);
        }

        void placePair(int at, int leftLines, int rightLines) {
            for (int row = 0; row < PAIR_ROWS; row++) {
                openPlace(pairs[row], at, count);
            }
            pairs[0][at] = leftLines;
            pairs[1][at] = rightLines;
            pairs[KEPT][at] = 0;
            pairs[BREAK][at] = 0;
            count++;
            left.movePairs(at, 1);
            right.movePairs(at, 1);
        }

        void dropPair(int pair) {
            for (int row = 0; row < PAIR_ROWS; row++) {
                closePlace(pairs[row], pair, count);
            }
            count--;
            left.dropPair(pair);
            right.dropPair(pair);
        }

        void copyFrom(Edition other) {
            count = other.count;
            copyTable(other.pairs, pairs);
            left.copyFrom(other.left);
            right.copyFrom(other.right);
            System.arraycopy(other.settings, 0, settings, 0, SETTINGS);
        }
    }

    /** The latest states; they lie in a ring, so that the oldest one is written over. */
    private static final class History {
        int count;
        private int next;
        private final Edition[] ring = new Edition[MAX_STATES];

        History() {
            for (int n = 0; n < MAX_STATES; n++) {
                ring[n] = new Edition();
            }
        }

        void record(Edition edition) {
            Edition state = ring[next];
            if (state != null) {
                state.copyFrom(edition);
            }
            next = next + 1 < MAX_STATES ? next + 1 : 0;
            count = Math.min(count + 1, MAX_STATES);
        }

        void restore(Edition edition) {
            next = next > 0 ? next - 1 : MAX_STATES - 1;
            count--;
            Edition state = ring[next];
            if (state != null) {
                edition.copyFrom(state);
            }
        }
    }

    /** Successive lines of both sides of a pair. */
    private static final class Part {
        int pair;
        final int[] first = new int[SIDES];
        final int[] lines = new int[SIDES];

        /** Becomes a whole pair, or nothing if there is no such pair. */
        void takePair(Edition edition, int number) {
            pair = number;
            for (int side = 0; side < SIDES; side++) {
                first[side] = 0;
                lines[side] = edition.hasPair(number) ? edition.pairs[side][number] : 0;
            }
        }

        void takeStart(Part whole, int leftLines, int rightLines) {
            pair = whole.pair;
            System.arraycopy(whole.first, 0, first, 0, SIDES);
            lines[0] = leftLines;
            lines[1] = rightLines;
        }

        void dropStart(Part start) {
            for (int side = 0; side < SIDES; side++) {
                first[side] += start.lines[side];
                lines[side] -= start.lines[side];
            }
        }

        boolean isBegun() {
            return first[0] > 0;
        }
    }

    /** Two facing pages on which segments are put, one after the other. */
    private static final class Facing {
        final int[] text = new int[SIDES];
        final int[] next = new int[SIDES];
        final int[] carriedTo = new int[SIDES];
        final int[] firstNote = new int[SIDES];
        final int[] notes = new int[SIDES];
        final int[] noteLines = new int[SIDES];
        final int[] lastLength = new int[SIDES];

        /** Makes a page empty, but for the lines that are carried to it. */
        void turn(int side, int carried, int note) {
            text[side] = 0;
            next[side] = 0;
            carriedTo[side] = carried;
            firstNote[side] = note;
            notes[side] = 0;
            noteLines[side] = 0;
            lastLength[side] = 0;
        }

        void copyFrom(Facing other) {
            System.arraycopy(other.text, 0, text, 0, SIDES);
            System.arraycopy(other.next, 0, next, 0, SIDES);
            System.arraycopy(other.carriedTo, 0, carriedTo, 0, SIDES);
            System.arraycopy(other.firstNote, 0, firstNote, 0, SIDES);
            System.arraycopy(other.notes, 0, notes, 0, SIDES);
            System.arraycopy(other.noteLines, 0, noteLines, 0, SIDES);
            System.arraycopy(other.lastLength, 0, lastLength, 0, SIDES);
        }

        void put(Edition edition, Part part) {
            for (int side = 0; side < SIDES; side++) {
                text[side] = next[side] + part.lines[side];
                Notes stream = edition.notes(side);
                int from = firstNote[side] + notes[side];
                int end = stream.endBefore(from, part.pair, part.first[side] + part.lines[side]);
                for (int note = from; note < end; note++) {
                    lastLength[side] = stream.table[NOTE_LENGTH][note];
                    noteLines[side] += lastLength[side];
                }
                notes[side] = end - firstNote[side];
            }
            boolean align = edition.settings[ALIGN] == 1;
            int longer = Math.max(text[0], text[1]);
            for (int side = 0; side < SIDES; side++) {
                next[side] = (align ? longer : text[side]) + edition.settings[GAP];
            }
        }

        int noteRows(int side, int rule, int carriedFrom) {
            int lines = carriedTo[side] + noteLines[side] - carriedFrom;
            return lines > 0 ? rule + lines : 0;
        }

        int mostCarried(int side, int carry) {
            return Math.max(0, Math.min(carry, lastLength[side] - 1));
        }

        boolean fits(int height, int rule, int carry) {
            for (int side = 0; side < SIDES; side++) {
                if (text[side] + noteRows(side, rule, mostCarried(side, carry)) > height) {
                    return false;
                }
            }
            return true;
        }

        /** The least number of carried lines with which the page fits, or the most that there can be. */
        int carriedFrom(int side, Edition edition, int height) {
            int most = mostCarried(side, edition.settings[CARRY]);
            int lines = 0;
            while (lines < most && text[side] + noteRows(side, edition.settings[RULE], lines) > height) {
                lines++;
            }
            return lines;
        }
    }

    /** The spreads of an edition, as they are made for one height. */
    private static final class Spreads {
        static final int NONE = 0;

        /** The height for which they are made, or NONE if they are not made since the last change. */
        int height = NONE;
        int count;
        /** The first segment of each spread, and behind them the number of all segments. */
        final int[] firstSegment = new int[MAX_SPREADS + 1];
        final int[] overfull = new int[MAX_SPREADS];
        final int[][] segments = new int[SEGMENT_ROWS][MAX_SEGMENTS];
        final int[][] pages = new int[PAGE_ROWS][SIDES * MAX_SPREADS];
        private int segmentsMade;
        private final Facing now = new Facing();
        private final Facing trial = new Facing();
        private final Part rest = new Part();
        private final Part start = new Part();

        void arrange(Edition edition, int wanted) {
            if (height == wanted) {
                return;
            }
            height = wanted;
            count = 0;
            segmentsMade = 0;
            rest.takePair(edition, 0);
            now.turn(0, 0, 0);
            now.turn(1, 0, 0);
            for (int n = 0; n < MAX_SPREADS && (edition.hasPair(rest.pair) || isCarried()); n++) {
                overfull[count] = 0;
                boolean goesOn = true;
                for (int pairs = 0; goesOn && pairs < MAX_PAIRS; pairs++) {
                    goesOn = putNext(edition);
                }
                endSpread(edition);
            }
        }

        private boolean isCarried() {
            return now.carriedTo[0] + now.carriedTo[1] > 0;
        }

        /** Puts the next segment on the spread, and tells whether the spread goes on behind it. */
        private boolean putNext(Edition edition) {
            if (!edition.hasPair(rest.pair)) {
                return false;
            }
            boolean isFirst = segmentsMade == firstSegment[count];
            if (!isFirst && !rest.isBegun() && edition.pairs[BREAK][rest.pair] == 1) {
                return false;
            }
            if (fits(edition, rest)) {
                putRest(edition);
                return true;
            }
            if (edition.pairs[KEPT][rest.pair] == 0 && findStart(edition)) {
                addSegment(edition, start, 1);
                rest.dropStart(start);
            } else if (isFirst) {
                overfull[count] = 1;
                putRest(edition);
            }
            return false;
        }

        private void putRest(Edition edition) {
            addSegment(edition, rest, 0);
            rest.takePair(edition, rest.pair + 1);
        }

        private boolean fits(Edition edition, Part part) {
            trial.copyFrom(now);
            trial.put(edition, part);
            return trial.fits(height, edition.settings[RULE], edition.settings[CARRY]);
        }

        /** Looks for the longest start of the rest that fits when the pair is split behind it. */
        private boolean findStart(Edition edition) {
            int least = edition.settings[LEAST];
            int left = rest.lines[0];
            int right = rest.lines[1];
            if (left <= 0) {
                return false;
            }
            // More lines than the page has rows left cannot fit, so they are not tried.
            int most = Math.min(left - least, height - now.next[0]);
            for (int x = most; x >= least; x--) {
                int y = (2 * x * right + left) / (2 * left);
                if (y >= least && right - y >= least) {
                    start.takeStart(rest, x, y);
                    if (fits(edition, start)) {
                        return true;
                    }
                }
            }
            return false;
        }

        private void addSegment(Edition edition, Part part, int goesOn) {
            if (segmentsMade >= MAX_SEGMENTS) {
                return;
            }
            segments[SEGMENT_PAIR][segmentsMade] = part.pair;
            segments[SEGMENT_GOES_ON][segmentsMade] = goesOn;
            for (int side = 0; side < SIDES; side++) {
                segments[SEGMENT_FIRST[side]][segmentsMade] = part.first[side];
                segments[SEGMENT_LINES[side]][segmentsMade] = part.lines[side];
                segments[SEGMENT_BEGIN[side]][segmentsMade] = now.next[side];
            }
            segmentsMade++;
            now.put(edition, part);
        }

        private void endSpread(Edition edition) {
            for (int side = 0; side < SIDES; side++) {
                int page = SIDES * count + side;
                int carried = now.carriedFrom(side, edition, height);
                int noteRows = now.noteRows(side, edition.settings[RULE], carried);
                pages[PAGE_TEXT][page] = now.text[side];
                pages[PAGE_NOTE_ROWS][page] = noteRows;
                pages[PAGE_BLANK][page] = Math.max(0, height - now.text[side] - noteRows);
                pages[PAGE_CARRIED_TO][page] = now.carriedTo[side];
                pages[PAGE_CARRIED_FROM][page] = carried;
                pages[PAGE_NOTES][page] = now.notes[side];
                pages[PAGE_FIRST_NOTE][page] = now.firstNote[side];
                now.turn(side, carried, now.firstNote[side] + now.notes[side]);
            }
            count++;
            firstSegment[count] = segmentsMade;
        }

        boolean has(int spread) {
            return isIn(spread, 0, count - 1);
        }

        int segmentsOf(int spread) {
            return firstSegment[spread + 1] - firstSegment[spread];
        }

        /** The segment that contains a line of the edition. */
        int segmentWith(int pair, int side, int line) {
            int segment = 0;
            while (segment < segmentsMade - 1 && !contains(segment, pair, side, line)) {
                segment++;
            }
            return segment;
        }

        private boolean contains(int segment, int pair, int side, int line) {
            int from = line - segments[SEGMENT_FIRST[side]][segment];
            return segments[SEGMENT_PAIR][segment] == pair
                    && isIn(from, 0, segments[SEGMENT_LINES[side]][segment] - 1);
        }

        int spreadWith(int segment) {
            int spread = 0;
            while (spread < count - 1 && firstSegment[spread + 1] <= segment) {
                spread++;
            }
            return spread;
        }

        int rowIn(int segment, int side, int line) {
            return segments[SEGMENT_BEGIN[side]][segment] + line - segments[SEGMENT_FIRST[side]][segment];
        }

        /** What a row shows if a line of text stands in it, otherwise 0. */
        int textAt(int spread, int side, int row) {
            for (int segment = firstSegment[spread]; segment < firstSegment[spread + 1]; segment++) {
                int from = row - segments[SEGMENT_BEGIN[side]][segment];
                if (isIn(from, 0, segments[SEGMENT_LINES[side]][segment] - 1)) {
                    int line = segments[SEGMENT_FIRST[side]][segment] + from;
                    return SHOWN_LINE + SHOWN_NUMBER * segments[SEGMENT_PAIR][segment] + line;
                }
            }
            return 0;
        }

        /** What a row shows if the rule or a line of a note stands in it, otherwise 0. */
        int noteAt(Edition edition, int spread, int side, int row) {
            int page = SIDES * spread + side;
            int rows = pages[PAGE_NOTE_ROWS][page];
            int begin = Math.max(height - rows, pages[PAGE_TEXT][page]);
            if (!isIn(row, begin, begin + rows - 1)) {
                return 0;
            }
            int line = row - begin - edition.settings[RULE];
            return line < 0 ? SHOWN_RULE : noteLine(edition.notes(side), page, line);
        }

        private int noteLine(Notes notes, int page, int line) {
            int carried = pages[PAGE_CARRIED_TO][page];
            int first = pages[PAGE_FIRST_NOTE][page];
            // The last lines of the note before the first one of this page come first.
            if (line < carried && first > 0) {
                int from = notes.table[NOTE_LENGTH][first - 1] - carried;
                return SHOWN_NOTE + SHOWN_NUMBER * (first - 1) + from + line;
            }
            int left = line - carried;
            for (int note = first; note < notes.count; note++) {
                int length = notes.table[NOTE_LENGTH][note];
                if (left < length) {
                    return SHOWN_NOTE + SHOWN_NUMBER * note + left;
                }
                left -= length;
            }
            return 0;
        }

        /** The sum of the squares of the blank rows of all spreads but the last one. */
        int blankSquares() {
            int sum = 0;
            for (int page = 0; page < SIDES * (count - 1); page++) {
                sum += pages[PAGE_BLANK][page] * pages[PAGE_BLANK][page];
            }
            return sum;
        }

        int overfullSpreads() {
            int sum = 0;
            for (int spread = 0; spread < count; spread++) {
                sum += overfull[spread];
            }
            return sum;
        }

        /** The number of segments that begin a pair which goes on in the next spread. */
        int splitSegments() {
            int sum = 0;
            for (int segment = 0; segment < segmentsMade; segment++) {
                sum += segments[SEGMENT_FIRST[0]][segment] == 0 ? segments[SEGMENT_GOES_ON][segment] : 0;
            }
            return sum;
        }
    }

    /** The best division of the pairs into groups, searched for from the last pair to the first. */
    private static final class Division {
        private static final int NONE = -1;

        boolean isSearched;
        int groups;
        final int[] firstPairs = new int[MAX_PAIRS];
        /** For each pair the least cost of a division of it and all behind it, or NONE. */
        final int[] costs = new int[MAX_PAIRS + 1];
        private final int[] sizes = new int[MAX_PAIRS];
        private final Facing group = new Facing();
        private final Part whole = new Part();

        boolean isAllowed() {
            return costs[0] != NONE;
        }

        void search(Edition edition) {
            if (isSearched) {
                return;
            }
            isSearched = true;
            costs[edition.count] = 0;
            for (int pair = edition.count - 1; pair >= 0; pair--) {
                searchFrom(edition, pair);
            }
            groups = 0;
            int first = 0;
            while (isAllowed() && first < edition.count && groups < MAX_PAIRS) {
                firstPairs[groups] = first;
                groups++;
                first += sizes[first];
            }
        }

        private void searchFrom(Edition edition, int from) {
            costs[from] = NONE;
            group.turn(0, 0, edition.left.before(from, 0));
            group.turn(1, 0, edition.right.before(from, 0));
            for (int pair = from; pair < edition.count; pair++) {
                if (pair > from && edition.pairs[BREAK][pair] == 1) {
                    return;
                }
                whole.takePair(edition, pair);
                group.put(edition, whole);
                if (!group.fits(edition.settings[HEIGHT], edition.settings[RULE], 0)) {
                    return;
                }
                considerGroup(edition, from, pair + 1);
            }
        }

        private void considerGroup(Edition edition, int from, int end) {
            if (costs[end] == NONE) {
                return;
            }
            int cost = costs[end] + (end < edition.count ? blankSquares(edition) : 0);
            // Of equal costs the later one has the longer first group, and so is the better one.
            if (costs[from] == NONE || cost <= costs[from]) {
                costs[from] = cost;
                sizes[from] = end - from;
            }
        }

        private int blankSquares(Edition edition) {
            int sum = 0;
            for (int side = 0; side < SIDES; side++) {
                int blank = edition.settings[HEIGHT] - group.text[side]
                        - group.noteRows(side, edition.settings[RULE], 0);
                sum += blank * blank;
            }
            return sum;
        }
    }
}
