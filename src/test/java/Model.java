import java.util.ArrayList;
import java.util.List;

/**
 * The document once more, written as differently from the program as may be: pairs hold their own
 * notes, pages are built row by row, and divisions are all tried out. ModelTest compares the two.
 */
final class Model {
    private static final int INVALID = -1;
    private static final int IMPOSSIBLE = -2;
    private static final int LIMIT = -3;
    private static final int MISSING = -4;
    private static final int[][] RANGES = {{8, 60}, {0, 3}, {0, 2}, {1, 4}, {0, 5}, {0, 1}};

    private record Note(int line, int length) {
    }

    private static final class Pair {
        int[] lines = new int[2];
        boolean kept;
        boolean broken;
        List<List<Note>> notes = List.of(new ArrayList<>(), new ArrayList<>());

        Pair copy() {
            Pair copy = new Pair();
            copy.lines = lines.clone();
            copy.kept = kept;
            copy.broken = broken;
            copy.notes = List.of(new ArrayList<>(notes.get(0)), new ArrayList<>(notes.get(1)));
            return copy;
        }
    }

    private record State(List<Pair> pairs, int[] settings) {
    }

    /** A segment: lines from[side] to to[side] - 1 of a pair, in rows from begin[side]. */
    private record Segment(int pair, int[] from, int[] to, int[] begin, boolean goesOn) {
    }

    /** A line of a note: the note's number and the line's. */
    private record NoteLine(int note, int line) {
    }

    private static final class Page {
        int text;
        int own;
        List<NoteLine> carriedTo = new ArrayList<>();
        List<NoteLine> stay = new ArrayList<>();
        List<NoteLine> carriedFrom = new ArrayList<>();
    }

    private static final class Spread {
        List<Segment> segments = new ArrayList<>();
        Page[] pages = {new Page(), new Page()};
        boolean overfull;
    }

    private List<Pair> pairs = new ArrayList<>();
    private int[] settings = {20, 1, 1, 2, 3, 0};
    private final List<State> history = new ArrayList<>();

    // Kept between two changes, or the test would take minutes.
    private List<Spread> known;
    private int knownHeight;

    private static List<Pair> copyOf(List<Pair> pairs) {
        List<Pair> copy = new ArrayList<>();
        for (Pair pair : pairs) {
            copy.add(pair.copy());
        }
        return copy;
    }

    private void change() {
        known = null;
        history.add(new State(copyOf(pairs), settings.clone()));
        while (history.size() > 6) {
            history.remove(0);
        }
    }

    private boolean noPair(int pair) {
        return pair < 0 || pair >= pairs.size();
    }

    private boolean noSide(int side) {
        return side != 0 && side != 1;
    }

    private boolean noLine(int pair, int side, int line) {
        return noPair(pair) || noSide(side) || line < 0 || line >= pairs.get(pair).lines[side];
    }

    int insert(int at, int left, int right) {
        if (at < 0 || at > pairs.size() || left < 1 || left > 30 || right < 1 || right > 30) {
            return INVALID;
        }
        if (pairs.size() == 20) {
            return LIMIT;
        }
        change();
        Pair pair = new Pair();
        pair.lines = new int[] {left, right};
        pairs.add(at, pair);
        return pairs.size();
    }

    int remove(int pair) {
        if (noPair(pair)) {
            return INVALID;
        }
        change();
        pairs.remove(pair);
        return pairs.size();
    }

    int setLines(int pair, int side, int lines) {
        if (noPair(pair) || noSide(side) || lines < 1 || lines > 30) {
            return INVALID;
        }
        for (Note note : pairs.get(pair).notes.get(side)) {
            if (note.line >= lines) {
                return IMPOSSIBLE;
            }
        }
        change();
        int previous = pairs.get(pair).lines[side];
        pairs.get(pair).lines[side] = lines;
        return previous;
    }

    int setFlag(int pair, int what, int on) {
        if (noPair(pair) || what < 0 || what > 1 || on < 0 || on > 1) {
            return INVALID;
        }
        change();
        int previous = pairInfo(pair, what + 2);
        if (what == 0) {
            pairs.get(pair).kept = on == 1;
        } else {
            pairs.get(pair).broken = on == 1;
        }
        return previous;
    }

    int addNote(int pair, int side, int line, int length) {
        if (noLine(pair, side, line) || length < 1 || length > 10) {
            return INVALID;
        }
        if (noteCount(0) + noteCount(1) == 40) {
            return LIMIT;
        }
        change();
        List<Note> notes = pairs.get(pair).notes.get(side);
        int at = notes.size();
        while (at > 0 && notes.get(at - 1).line > line) {
            at--;
        }
        notes.add(at, new Note(line, length));
        int number = at;
        for (int before = 0; before < pair; before++) {
            number += pairs.get(before).notes.get(side).size();
        }
        return number;
    }

    int removeNote(int side, int note) {
        if (noSide(side) || note < 0) {
            return INVALID;
        }
        if (note >= noteCount(side)) {
            return MISSING;
        }
        change();
        int left = note;
        for (Pair pair : pairs) {
            List<Note> notes = pair.notes.get(side);
            if (left < notes.size()) {
                notes.remove(left);
                break;
            }
            left -= notes.size();
        }
        return noteCount(side);
    }

    int set(int what, int value) {
        if (what < 0 || what > 5 || value < RANGES[what][0] || value > RANGES[what][1]) {
            return INVALID;
        }
        change();
        int previous = settings[what];
        settings[what] = value;
        return previous;
    }

    int undo() {
        if (history.isEmpty()) {
            return IMPOSSIBLE;
        }
        known = null;
        State state = history.remove(history.size() - 1);
        pairs = state.pairs;
        settings = state.settings;
        return history.size();
    }

    int height() {
        return settings[0];
    }

    int pairCount() {
        return pairs.size();
    }

    int pairInfo(int pair, int what) {
        if (noPair(pair) || what < 0 || what > 3) {
            return INVALID;
        }
        Pair found = pairs.get(pair);
        return switch (what) {
            case 0, 1 -> found.lines[what];
            case 2 -> found.kept ? 1 : 0;
            default -> found.broken ? 1 : 0;
        };
    }

    int noteCount(int side) {
        if (noSide(side)) {
            return INVALID;
        }
        int count = 0;
        for (Pair pair : pairs) {
            count += pair.notes.get(side).size();
        }
        return count;
    }

    int noteInfo(int side, int note, int what) {
        if (noSide(side) || note < 0 || what < 0 || what > 2) {
            return INVALID;
        }
        int left = note;
        for (int pair = 0; pair < pairs.size(); pair++) {
            List<Note> notes = pairs.get(pair).notes.get(side);
            if (left < notes.size()) {
                Note found = notes.get(left);
                return what == 0 ? pair : what == 1 ? found.line : found.length;
            }
            left -= notes.size();
        }
        return MISSING;
    }

    // ---- spreads

    /** Sets the pages of a spread from its segments; the most is carried, or the least that does. */
    private void setPages(Spread spread, int height, boolean most, int mostCarried) {
        for (int side = 0; side < 2; side++) {
            Page page = spread.pages[side];
            page.text = 0;
            for (Segment segment : spread.segments) {
                page.text = segment.begin[side] + segment.to[side] - segment.from[side];
            }
            List<List<NoteLine>> own = ownNotes(spread, side);
            page.own = own.size();
            int last = own.isEmpty() ? 0 : own.get(own.size() - 1).size();
            int limit = Math.max(0, Math.min(mostCarried, last - 1));
            for (int carried = most ? limit : 0; carried <= limit; carried++) {
                page.stay = new ArrayList<>(page.carriedTo);
                for (List<NoteLine> note : own) {
                    page.stay.addAll(note);
                }
                int cut = page.stay.size() - carried;
                page.carriedFrom = new ArrayList<>(page.stay.subList(cut, page.stay.size()));
                page.stay = new ArrayList<>(page.stay.subList(0, cut));
                if (page.text + noteRows(page) <= height) {
                    break;
                }
            }
        }
    }

    private int noteRows(Page page) {
        return page.stay.isEmpty() ? 0 : settings[2] + page.stay.size();
    }

    private List<List<NoteLine>> ownNotes(Spread spread, int side) {
        List<List<NoteLine>> own = new ArrayList<>();
        int number = 0;
        for (int pair = 0; pair < pairs.size(); pair++) {
            for (Note note : pairs.get(pair).notes.get(side)) {
                for (Segment segment : spread.segments) {
                    if (segment.pair == pair && note.line >= segment.from[side] && note.line < segment.to[side]) {
                        List<NoteLine> lines = new ArrayList<>();
                        for (int line = 0; line < note.length; line++) {
                            lines.add(new NoteLine(number, line));
                        }
                        own.add(lines);
                    }
                }
                number++;
            }
        }
        return own;
    }

    private int[] nextBegin(Spread spread) {
        if (spread.segments.isEmpty()) {
            return new int[] {0, 0};
        }
        Segment before = spread.segments.get(spread.segments.size() - 1);
        int[] end = new int[2];
        for (int side = 0; side < 2; side++) {
            end[side] = before.begin[side] + before.to[side] - before.from[side];
        }
        if (settings[5] == 1) {
            int longest = Math.max(before.to[0] - before.from[0], before.to[1] - before.from[1]);
            return new int[] {before.begin[0] + longest + settings[1], before.begin[1] + longest + settings[1]};
        }
        return new int[] {end[0] + settings[1], end[1] + settings[1]};
    }

    /** Adds a segment if the spread then fits, or if it must. */
    private boolean add(Spread spread, int pair, int[] from, int[] to, int height, boolean must) {
        boolean goesOn = to[0] < pairs.get(pair).lines[0];
        spread.segments.add(new Segment(pair, from.clone(), to.clone(), nextBegin(spread), goesOn));
        if (must || fits(spread, height, settings[4])) {
            return true;
        }
        spread.segments.remove(spread.segments.size() - 1);
        return false;
    }

    private boolean fits(Spread spread, int height, int mostCarried) {
        setPages(spread, height, true, mostCarried);
        for (Page page : spread.pages) {
            if (page.text + noteRows(page) > height) {
                return false;
            }
        }
        return true;
    }

    private List<Spread> spreads(int height) {
        if (known == null || knownHeight != height) {
            known = makeSpreads(height);
            knownHeight = height;
        }
        return known;
    }

    private List<Spread> makeSpreads(int height) {
        List<Spread> all = new ArrayList<>();
        int pair = 0;
        int[] from = {0, 0};
        List<List<NoteLine>> carried = List.of(List.of(), List.of());
        while (pair < pairs.size() || !carried.get(0).isEmpty() || !carried.get(1).isEmpty()) {
            Spread spread = new Spread();
            spread.pages[0].carriedTo.addAll(carried.get(0));
            spread.pages[1].carriedTo.addAll(carried.get(1));
            while (pair < pairs.size()) {
                Pair next = pairs.get(pair);
                boolean empty = spread.segments.isEmpty();
                if (!empty && next.broken && from[0] == 0) {
                    break;
                }
                if (add(spread, pair, from, next.lines, height, false)) {
                    pair++;
                    from = new int[] {0, 0};
                    continue;
                }
                int[] to = next.kept ? null : split(spread, pair, from, height);
                if (to != null) {
                    from = to;
                } else if (empty) {
                    add(spread, pair, from, next.lines, height, true);
                    spread.overfull = true;
                    pair++;
                    from = new int[] {0, 0};
                }
                break;
            }
            setPages(spread, height, false, settings[4]);
            carried = List.of(spread.pages[0].carriedFrom, spread.pages[1].carriedFrom);
            all.add(spread);
        }
        return all;
    }

    /** Adds the longest part that fits, and tells behind which lines it ends, or null. */
    private int[] split(Spread spread, int pair, int[] from, int height) {
        int least = settings[3];
        int p = pairs.get(pair).lines[0] - from[0];
        int q = pairs.get(pair).lines[1] - from[1];
        for (int x = 30; x >= 1; x--) {
            int y = (2 * x * q + p) / (2 * p);
            int smallest = Math.min(Math.min(x, y), Math.min(p - x, q - y));
            int[] to = {from[0] + x, from[1] + y};
            if (smallest >= least && add(spread, pair, from, to, height, false)) {
                return to;
            }
        }
        return null;
    }

    private int blank(Page page, int height) {
        return Math.max(0, height - page.text - noteRows(page));
    }

    private static int square(int number) {
        return number * number;
    }

    int spreadCount() {
        return spreads(settings[0]).size();
    }

    int segmentCount(int spread) {
        List<Spread> all = spreads(settings[0]);
        return spread < 0 || spread >= all.size() ? INVALID : all.get(spread).segments.size();
    }

    int segmentInfo(int spread, int segment, int what) {
        List<Spread> all = spreads(settings[0]);
        if (spread < 0 || spread >= all.size() || segment < 0 || what < 0 || what > 7) {
            return INVALID;
        }
        if (segment >= all.get(spread).segments.size()) {
            return MISSING;
        }
        Segment found = all.get(spread).segments.get(segment);
        return switch (what) {
            case 0 -> found.pair;
            case 1 -> found.from[0];
            case 2 -> found.to[0] - found.from[0];
            case 3 -> found.from[1];
            case 4 -> found.to[1] - found.from[1];
            case 5 -> found.begin[0];
            case 6 -> found.begin[1];
            default -> found.goesOn ? 1 : 0;
        };
    }

    int pageInfo(int spread, int side, int what) {
        List<Spread> all = spreads(settings[0]);
        if (spread < 0 || spread >= all.size() || noSide(side) || what < 0 || what > 5) {
            return INVALID;
        }
        Page page = all.get(spread).pages[side];
        return switch (what) {
            case 0 -> page.text;
            case 1 -> noteRows(page);
            case 2 -> blank(page, settings[0]);
            case 3 -> page.carriedTo.size();
            case 4 -> page.carriedFrom.size();
            default -> page.own;
        };
    }

    int isOverfull(int spread) {
        List<Spread> all = spreads(settings[0]);
        return spread < 0 || spread >= all.size() ? INVALID : all.get(spread).overfull ? 1 : 0;
    }

    /** The spread of a line and its row. */
    private int[] place(int pair, int side, int line) {
        List<Spread> all = spreads(settings[0]);
        for (int spread = 0; spread < all.size(); spread++) {
            for (Segment segment : all.get(spread).segments) {
                if (segment.pair == pair && line >= segment.from[side] && line < segment.to[side]) {
                    return new int[] {spread, segment.begin[side] + line - segment.from[side]};
                }
            }
        }
        throw new IllegalStateException("a line stands nowhere");
    }

    int spreadOf(int pair, int side, int line) {
        return noLine(pair, side, line) ? INVALID : place(pair, side, line)[0];
    }

    int rowOf(int pair, int side, int line) {
        return noLine(pair, side, line) ? INVALID : place(pair, side, line)[1];
    }

    int shown(int spread, int side, int row) {
        List<Spread> all = spreads(settings[0]);
        if (spread < 0 || spread >= all.size() || noSide(side) || row < 0 || row > 99) {
            return INVALID;
        }
        Page page = all.get(spread).pages[side];
        int[] rows = new int[1000];
        for (Segment segment : all.get(spread).segments) {
            for (int line = segment.from[side]; line < segment.to[side]; line++) {
                rows[segment.begin[side] + line - segment.from[side]] = 10000 + 100 * segment.pair + line;
            }
        }
        int at = Math.max(settings[0] - noteRows(page), page.text);
        for (int rule = 0; rule < noteRows(page) - page.stay.size(); rule++) {
            rows[at++] = 30000;
        }
        for (NoteLine line : page.stay) {
            rows[at++] = 20000 + 100 * line.note + line.line;
        }
        return rows[row];
    }

    int cost() {
        List<Spread> all = spreads(settings[0]);
        int cost = 0;
        for (int spread = 0; spread + 1 < all.size(); spread++) {
            for (Page page : all.get(spread).pages) {
                cost += square(blank(page, settings[0]));
            }
        }
        return cost;
    }

    // ---- searches

    private List<Integer> bestSizes;
    private int bestCost;

    private void tryAll(int from, int cost, List<Integer> sizes) {
        if (from == pairs.size()) {
            // Greater sizes are tried first, so only a lesser cost is better.
            if (bestSizes == null || cost < bestCost) {
                bestSizes = new ArrayList<>(sizes);
                bestCost = cost;
            }
            return;
        }
        for (int size = pairs.size() - from; size >= 1; size--) {
            int groupCost = groupCost(from, from + size);
            if (groupCost >= 0 && (bestSizes == null || cost + groupCost < bestCost)) {
                sizes.add(size);
                tryAll(from + size, cost + groupCost, sizes);
                sizes.remove(sizes.size() - 1);
            }
        }
    }

    private int groupCost(int from, int to) {
        Spread spread = new Spread();
        for (int pair = from; pair < to; pair++) {
            if (pair > from && pairs.get(pair).broken) {
                return -1;
            }
            add(spread, pair, new int[] {0, 0}, pairs.get(pair).lines, settings[0], true);
        }
        if (!fits(spread, settings[0], 0)) {
            return -1;
        }
        int left = blank(spread.pages[0], settings[0]);
        int right = blank(spread.pages[1], settings[0]);
        return to == pairs.size() ? 0 : square(left) + square(right);
    }

    private void search() {
        bestSizes = null;
        bestCost = MISSING;
        tryAll(0, 0, new ArrayList<>());
    }

    int bestCost() {
        search();
        return bestCost;
    }

    int bestBreak(int group) {
        if (group < 0) {
            return INVALID;
        }
        search();
        if (bestSizes == null || group >= bestSizes.size()) {
            return MISSING;
        }
        int first = 0;
        for (int before = 0; before < group; before++) {
            first += bestSizes.get(before);
        }
        return first;
    }

    int leastHeight(int spreads) {
        if (spreads < 1 || spreads > 40) {
            return INVALID;
        }
        for (int height = 8; height <= 60; height++) {
            if (spreads(height).size() <= spreads) {
                return height;
            }
        }
        return MISSING;
    }

    int overfullWith(int height) {
        if (height < 8 || height > 60) {
            return INVALID;
        }
        int count = 0;
        for (Spread spread : spreads(height)) {
            count += spread.overfull ? 1 : 0;
        }
        return count;
    }

    int splitPairs() {
        List<Spread> all = spreads(settings[0]);
        int count = 0;
        for (int pair = 0; pair < pairs.size(); pair++) {
            int stands = 0;
            for (Spread spread : all) {
                boolean here = false;
                for (Segment segment : spread.segments) {
                    here |= segment.pair == pair;
                }
                stands += here ? 1 : 0;
            }
            count += stands > 1 ? 1 : 0;
        }
        return count;
    }
}
