import java.util.ArrayList;
import java.util.List;
import java.util.TreeSet;

/**
 * Sentences that hold for every edition, each in a method of its own. They are asked of editions that
 * a fixed arithmetic makes; an object is made anew before its 512 calls are used up.
 */
final class EditionsTest {
    private static final int EDITIONS = 160;
    private static final int MISSING = -4;
    private static final int LEFT = 0;
    private static final int RIGHT = 1;
    private static final int[] SIDES = {LEFT, RIGHT};
    // Six notes of ten lines, the rule and the longest paragraph end before the last row that is shown.
    private static final int NOTES_OF_A_SIDE = 6;
    private static final int ROWS = 100;

    private final int number;
    private long seed;
    private final List<Twins.Call> making = new ArrayList<>();
    private final int pairs;
    private final int[][] lines;
    private final boolean[] broken;
    private final int[] settings;
    private final int spreads;

    private EditionsTest(int number) {
        this.number = number;
        seed = 7919L * number + 5;
        pairs = 1 + pick(6);
        lines = new int[pairs][2];
        broken = new boolean[pairs];
        settings = new int[] {8 + pick(number % 2 == 0 ? 12 : 40), pick(4), pick(3), 1 + pick(4), pick(6), pick(2)};
        if (number % 10 == 5) {
            settings[0] = 8;
        }
        for (int what = 0; what < settings.length; what++) {
            int setting = what;
            making.add(x -> x.set(setting, settings[setting]));
        }
        for (int pair = 0; pair < pairs; pair++) {
            makePair(pair);
        }
        makeNotes();
        spreads = make().spreadCount();
    }

    private void makePair(int pair) {
        int most = number % 3 == 0 ? 8 : 30;
        lines[pair] = new int[] {1 + pick(most), 1 + pick(most)};
        if (number % 10 == 5) {
            // Editions of a few lengths have several divisions with the least cost.
            int both = pick(4) == 0 ? 8 : 3;
            lines[pair] = new int[] {both, both};
        }
        making.add(x -> x.insert(pair, lines[pair][LEFT], lines[pair][RIGHT]));
        if (pick(4) == 0) {
            making.add(x -> x.setFlag(pair, 0, 1));
        }
        broken[pair] = pick(5) == 0;
        if (broken[pair]) {
            making.add(x -> x.setFlag(pair, 1, 1));
        }
    }

    private void makeNotes() {
        int most = number % 5 == 0 ? 0 : NOTES_OF_A_SIDE;
        for (int note = 0; note < 2 * most; note++) {
            int side = note % 2;
            int pair = pick(pairs);
            int line = pick(lines[pair][side]);
            int length = 1 + pick(number % 2 == 0 ? 10 : 4);
            making.add(x -> x.addNote(pair, side, line, length));
        }
    }

    public static void main(String[] args) {
        for (int number = 0; number < EDITIONS && Due.wrong() < 20; number++) {
            EditionsTest edition = new EditionsTest(number);
            edition.bothPagesShowTheSamePairs();
            edition.eachSideHasItsOwnStreamOfNotes();
            edition.notesBelongToTheirLines();
            edition.successiveLinesBeginningWithTheFirstPair();
            edition.segmentsOneAfterTheOther();
            edition.carriedToTheSameSideOfTheNextSpread();
            edition.overfullIfTheRowsAreTooMany();
            edition.notMoreIsCarriedThanNeeded();
            edition.linesAreShownWhereTheyStand();
            edition.costOfTheBlankRows();
            edition.bestOfAllDivisions();
            edition.leastOfAllHeights();
            edition.overfullAsWithTheHeightSet();
            edition.splitPairsStandOnMoreThanOneSpread();
        }
        Due.end("EditionsTest");
    }

    private int pick(int bound) {
        seed = seed * 6364136223846793005L + 1442695040888963407L;
        return (int) ((seed >>> 33) % bound);
    }

    private BilingualSetter make(Twins.Call... more) {
        List<Twins.Call> calls = new ArrayList<>(making);
        calls.addAll(List.of(more));
        return new Twins(calls.toArray(new Twins.Call[0])).make();
    }

    private BilingualSetter withHeight(int height) {
        return make(x -> x.set(0, height));
    }

    private void is(String what, long got, long due) {
        Due.is("edition " + number + ", " + what, got, due);
    }

    /** What all rows of a page show, in a new object. */
    private int[] rows(int spread, int side) {
        return Ask.shown(make(), spread, side, ROWS);
    }

    // ---- 'What it is' and 'Spreads'

    /** "so that both pages of a spread show the same pairs" */
    private void bothPagesShowTheSamePairs() {
        for (int spread = 0; spread < spreads; spread++) {
            Due.same("edition " + number + ", right pairs of spread " + spread, pairsShown(spread, RIGHT).toString(),
                    pairsShown(spread, LEFT).toString());
        }
    }

    private TreeSet<Integer> pairsShown(int spread, int side) {
        TreeSet<Integer> shown = new TreeSet<>();
        for (int row : rows(spread, side)) {
            if (row >= 10000 && row < 20000) {
                shown.add((row - 10000) / 100);
            }
        }
        return shown;
    }

    /**
     * "each side has its own stream of notes at the bottom of its pages"; "The notes of a page are the lines that
     * were carried to it, and then the notes that belong to its lines, in their order.": so page by page all lines
     * of note 0 come, then those of note 1, and so on.
     */
    private void eachSideHasItsOwnStreamOfNotes() {
        for (int side : SIDES) {
            List<Integer> shown = new ArrayList<>();
            for (int spread = 0; spread < spreads; spread++) {
                for (int row : rows(spread, side)) {
                    if (row >= 20000 && row < 30000) {
                        shown.add(row);
                    }
                }
            }
            List<Integer> due = new ArrayList<>();
            int[] lengths = Ask.lengths(make(), side);
            for (int note = 0; note < lengths.length; note++) {
                for (int line = 0; line < lengths[note]; line++) {
                    due.add(20000 + 100 * note + line);
                }
            }
            Due.same("edition " + number + ", notes of side " + side, shown.toString(), due.toString());
        }
    }

    /** "A note belongs to a line of a side of a pair"; "at least its first line stays": on the spread of that line. */
    private void notesBelongToTheirLines() {
        for (int side : SIDES) {
            BilingualSetter x = make();
            int notes = x.noteCount(side);
            int[] own = new int[spreads];
            for (int note = 0; note < notes; note++) {
                int spread = x.spreadOf(x.noteInfo(side, note, 0), side, x.noteInfo(side, note, 1));
                own[spread]++;
                int first = 20000 + 100 * note;
                boolean shown = false;
                for (int row : rows(spread, side)) {
                    shown |= row == first;
                }
                is("spread " + spread + " shows " + first, shown ? 1 : 0, 1);
            }
            for (int spread = 0; spread < spreads; spread++) {
                is("notes of spread " + spread + ", side " + side, x.pageInfo(spread, side, 5), own[spread]);
            }
        }
    }

    /**
     * "A segment belongs to a pair, and contains successive lines of both sides."; "Spreads are made one after the
     * other, beginning with the first pair."
     */
    private void successiveLinesBeginningWithTheFirstPair() {
        int pair = 0;
        int[] set = {0, 0};
        for (int spread = 0; spread < spreads; spread++) {
            BilingualSetter x = make();
            int segments = x.segmentCount(spread);
            for (int segment = 0; segment < segments; segment++) {
                int[] got = Ask.segment(x, spread, segment);
                String name = "segment " + segment + " of spread " + spread;
                is("pair of " + name, got[0], pair);
                is("first left line of " + name, got[1], set[LEFT]);
                is("first right line of " + name, got[3], set[RIGHT]);
                set[LEFT] += got[2];
                set[RIGHT] += got[4];
                boolean isWhole = pair < pairs && set[LEFT] == lines[pair][LEFT] && set[RIGHT] == lines[pair][RIGHT];
                is(name + " goes on", got[7], isWhole ? 0 : 1);
                if (isWhole) {
                    pair++;
                    set = new int[] {0, 0};
                }
            }
        }
        is("pairs that have been set", pair, pairs);
    }

    /** "A spread contains segments, one after the other.": the first in row 0, each other one a gap behind. */
    private void segmentsOneAfterTheOther() {
        for (int spread = 0; spread < spreads; spread++) {
            BilingualSetter x = make();
            int[] next = {0, 0};
            int segments = x.segmentCount(spread);
            for (int segment = 0; segment < segments; segment++) {
                int[] got = Ask.segment(x, spread, segment);
                is("left begin of segment " + segment + " of spread " + spread, got[5], next[LEFT]);
                is("right begin of segment " + segment + " of spread " + spread, got[6], next[RIGHT]);
                next = new int[] {got[5] + got[2], got[6] + got[4]};
                is("left text rows with it", segment == segments - 1 ? x.pageInfo(spread, LEFT, 0) : next[LEFT], next[LEFT]);
                is("right text rows with it", segment == segments - 1 ? x.pageInfo(spread, RIGHT, 0) : next[RIGHT],
                        next[RIGHT]);
                if (settings[5] == 1) {
                    next = new int[] {Math.max(next[LEFT], next[RIGHT]), Math.max(next[LEFT], next[RIGHT])};
                }
                next = new int[] {next[LEFT] + settings[1], next[RIGHT] + settings[1]};
            }
        }
    }

    /** "carried to the page of the same side of the next spread" */
    private void carriedToTheSameSideOfTheNextSpread() {
        for (int side : SIDES) {
            BilingualSetter x = make();
            int carried = 0;
            for (int spread = 0; spread < spreads; spread++) {
                is("carried to spread " + spread + ", side " + side, x.pageInfo(spread, side, 3), carried);
                carried = x.pageInfo(spread, side, 4);
            }
            is("carried from the last spread, side " + side, carried, 0);
        }
    }

    /** A spread that is not overfull has on both pages at most height rows; an overfull one has more on a page. */
    private void overfullIfTheRowsAreTooMany() {
        BilingualSetter x = make();
        for (int spread = 0; spread < spreads; spread++) {
            boolean tooMany = false;
            for (int side : SIDES) {
                int rows = x.pageInfo(spread, side, 0) + x.pageInfo(spread, side, 1);
                tooMany |= rows > settings[0];
                is("blank rows of spread " + spread + ", side " + side, x.pageInfo(spread, side, 2),
                        Math.max(0, settings[0] - rows));
            }
            is("overfull spread " + spread, x.isOverfull(spread), tooMany ? 1 : 0);
        }
    }

    /** "for each page the least number of lines is carried": a page from which lines are carried has no blank row. */
    private void notMoreIsCarriedThanNeeded() {
        BilingualSetter x = make();
        for (int spread = 0; spread < spreads; spread++) {
            for (int side : SIDES) {
                int carried = x.pageInfo(spread, side, 4);
                is("blank rows of spread " + spread + " that carries " + carried, carried == 0 ? 0 : x.pageInfo(spread, side, 2),
                        0);
                is("more than carry from spread " + spread, carried > settings[4] ? 1 : 0, 0);
            }
        }
    }

    /** "the spread on which a line stands", "the row in which a line stands", "what a row of a page shows" */
    private void linesAreShownWhereTheyStand() {
        for (int pair = 0; pair < pairs; pair++) {
            for (int side : SIDES) {
                BilingualSetter x = make();
                for (int line = 0; line < lines[pair][side]; line++) {
                    is("pair " + pair + ", side " + side + ", line " + line,
                            x.shown(x.spreadOf(pair, side, line), side, x.rowOf(pair, side, line)), 10000 + 100 * pair + line);
                }
            }
        }
    }

    /** "the sum of the squares of the blank rows of both pages of all spreads but the last one" */
    private void costOfTheBlankRows() {
        BilingualSetter x = make();
        int cost = 0;
        for (int spread = 0; spread < spreads - 1; spread++) {
            for (int side : SIDES) {
                cost += x.pageInfo(spread, side, 2) * x.pageInfo(spread, side, 2);
            }
        }
        is("cost", x.cost(), cost);
    }

    // ---- 'Best breaks' and the searches

    /**
     * "A division of all pairs into groups of successive pairs": all are tried out as spreads of an edition that has
     * breaks before their groups. Greater first groups come first, so that only a lesser cost is better.
     */
    private void bestOfAllDivisions() {
        int bestCost = MISSING;
        int best = 0;
        for (int division = 0; division < 1 << pairs - 1; division++) {
            int cost = costOf(division);
            if (cost >= 0 && (bestCost < 0 || cost < bestCost)) {
                bestCost = cost;
                best = division;
            }
        }
        BilingualSetter x = make();
        is("best cost", x.bestCost(), bestCost);
        int groups = 0;
        for (int pair = 0; pair < pairs && bestCost >= 0; pair++) {
            if (begins(best, pair)) {
                is("first pair of group " + groups, x.bestBreak(groups), pair);
                groups++;
            }
        }
        is("groups that there are not", x.bestBreak(groups), MISSING);
    }

    /** The highest bit stands for the second pair, so a lesser number has the longer groups before. */
    private boolean begins(int division, int pair) {
        return pair == 0 || (division >> pairs - 1 - pair & 1) == 1;
    }

    /** The cost of the spreads with these breaks, or -1 if they are not the groups or if anything is carried. */
    private int costOf(int division) {
        BilingualSetter x = make(y -> y.set(4, 0));
        int groups = 0;
        for (int pair = 0; pair < pairs; pair++) {
            if (broken[pair] && !begins(division, pair)) {
                return -1;
            }
            x.setFlag(pair, 1, begins(division, pair) ? 1 : 0);
            x.setFlag(pair, 0, 1);
            groups += begins(division, pair) ? 1 : 0;
        }
        if (x.spreadCount() != groups || x.overfullWith(settings[0]) > 0) {
            return -1;
        }
        return x.cost();
    }

    /** "the least height with which the spreads would be at most a number": as when each height is set. */
    private void leastOfAllHeights() {
        BilingualSetter x = make();
        for (int most : new int[] {1, 2, 3, pairs, spreads, 40}) {
            if (most <= 40) {
                int due = MISSING;
                for (int height = 60; height >= 8; height--) {
                    due = withHeight(height).spreadCount() <= most ? height : due;
                }
                is("least height for " + most, x.leastHeight(most), due);
            }
        }
    }

    /** "the spreads that would be overfull with a height": as when it is set. */
    private void overfullAsWithTheHeightSet() {
        BilingualSetter x = make();
        for (int height = 8; height <= 60; height += 1 + number % 7) {
            BilingualSetter other = withHeight(height);
            int due = 0;
            int count = other.spreadCount();
            for (int spread = 0; spread < count; spread++) {
                due += other.isOverfull(spread);
            }
            is("overfull with " + height, x.overfullWith(height), due);
        }
    }

    /** "the number of pairs that stand on more than one spread" */
    private void splitPairsStandOnMoreThanOneSpread() {
        BilingualSetter x = make();
        int due = 0;
        for (int pair = 0; pair < pairs; pair++) {
            due += x.spreadOf(pair, LEFT, 0) < x.spreadOf(pair, LEFT, lines[pair][LEFT] - 1) ? 1 : 0;
        }
        is("split pairs", x.splitPairs(), due);
    }
}
