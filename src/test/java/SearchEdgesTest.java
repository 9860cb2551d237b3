import java.util.Arrays;

/**
 * The boundary cases of the document's part 'Best breaks' and of the promises 23 to 26, worked out by
 * hand. Each method stands for one sentence, which is told above it.
 */
final class SearchEdgesTest {
    private static final int INVALID = -1;
    private static final int MISSING = -4;
    private static final int LEFT = 0;
    private static final int RIGHT = 1;

    /** Pairs of 3, 3, 3 and 8 lines on pages of 8 rows: the first two, the third and the fourth are the best groups. */
    private static final Twins FOUR = new Twins(
            x -> x.set(0, 8), x -> x.set(1, 0),
            x -> x.insert(0, 3, 3), x -> x.insert(1, 3, 3), x -> x.insert(2, 3, 3), x -> x.insert(3, 8, 8));
    /** A pair of 9 lines on pages of 8 rows, behind one of 4. */
    private static final Twins NOT_ALLOWED = new Twins(
            x -> x.set(0, 8), x -> x.insert(0, 4, 4), x -> x.insert(1, 9, 8));
    private static final Twins EMPTY = new Twins();

    private SearchEdgesTest() {
    }

    public static void main(String[] args) {
        divisions();
        costsOfDivisions();
        promises23And24();
        promises25And26();
        Due.end("SearchEdgesTest");
    }

    private static void divisions() {
        noPairs();
        noAllowedDivision();
        groupThatJustFits();
        groupsKeepGapsAndStarts();
        nothingIsCarriedFromAGroup();
        nothingIsCarriedToAGroup();
        breaksBeginGroups();
        wholeSegments();
    }

    private static void costsOfDivisions() {
        lastGroupCostsNothing();
        blankRowsOfBothPages();
        longestFirstGroup();
        longestSecondGroup();
        longestThirdGroup();
        leastCostBeforeLongestGroup();
    }

    private static void promises23And24() {
        promise23GreatestCost();
        promise24RangeOfBestBreak();
        promise24NotSoManyGroups();
        promise24OneToTwentyGroups();
    }

    private static void promises25And26() {
        promise25RangeOfLeastHeight();
        promise25LeastAndGreatestHeight();
        promise25NoHeight();
        promise25FortySpreads();
        promise25AtMostSoManySpreads();
        promise25AllElseAsItIs();
        promise26RangeOfOverfullWith();
        promise26NoneAndAll();
        promise26AllElseAsItIs();
    }

    /** An edition of pairs with as many left as right lines, without a gap. */
    private static BilingualSetter withLines(int height, int... lines) {
        BilingualSetter x = new BilingualSetter();
        x.set(0, height);
        x.set(1, 0);
        for (int pair = 0; pair < lines.length; pair++) {
            x.insert(pair, lines[pair], lines[pair]);
        }
        return x;
    }

    private static int[] twenty(int lines) {
        int[] all = new int[20];
        Arrays.fill(all, lines);
        return all;
    }

    private static void setFlags(BilingualSetter x, int what) {
        for (int pair = 0; pair < x.pairCount(); pair++) {
            x.setFlag(pair, what, 1);
        }
    }

    // ---- divisions

    /** "0 if there are no pairs"; "NOT_FOUND if there are not so many groups" */
    private static void noPairs() {
        Due.are("a new object", Ask.best(new BilingualSetter(), 0), 0, MISSING);
        BilingualSetter x = withLines(8, 9);
        Due.are("a pair that does not fit", Ask.best(x, 0), MISSING, MISSING);
        x.remove(0);
        Due.are("no pairs again", Ask.best(x, 0), 0, MISSING);
        EMPTY.unchanged("bestCost without pairs", 0, y -> y.bestCost());
        EMPTY.unchanged("bestBreak without pairs", MISSING, y -> y.bestBreak(0));
    }

    /** "NOT_FOUND if no division is allowed": one pair is enough for that, wherever it stands. */
    private static void noAllowedDivision() {
        int[][] all = {{9}, {9, 1, 1}, {1, 9, 1}, {1, 1, 9}};
        for (int[] lines : all) {
            Due.are("a pair of 9 lines in 8 rows", Ask.best(withLines(8, lines), 2), MISSING, MISSING, MISSING, MISSING);
        }
        BilingualSetter x = withLines(8, 1, 9, 1);
        setFlags(x, 1);
        Due.are("with breaks", Ask.best(x, 0), MISSING, MISSING);
        x = withLines(8, 1, 8, 1);
        x.setLines(1, RIGHT, 9);
        Due.are("the right side alone", Ask.best(x, 0), MISSING, MISSING);
        NOT_ALLOWED.unchanged("bestCost", MISSING, y -> y.bestCost());
        NOT_ALLOWED.unchanged("bestBreak(0)", MISSING, y -> y.bestBreak(0));
        NOT_ALLOWED.unchanged("bestBreak(1)", MISSING, y -> y.bestBreak(1));
        NOT_ALLOWED.unchanged("bestBreak(-1)", INVALID, y -> y.bestBreak(-1));
    }

    /** "each group fits on a spread": 8 of 8 rows, and 9. */
    private static void groupThatJustFits() {
        Due.are("one pair", Ask.best(withLines(8, 8), 1), 0, 0, MISSING);
        BilingualSetter x = withLines(8, 5, 3);
        Due.are("two pairs", Ask.best(x, 1), 0, 0, MISSING);
        x.setLines(1, LEFT, 4);
        Due.are("9 left rows", Ask.best(x, 2), 9 + 9, 0, 1, MISSING);
        x.setLines(1, LEFT, 3);
        x.setLines(1, RIGHT, 4);
        Due.are("9 right rows", Ask.best(x, 2), 9 + 9, 0, 1, MISSING);
        x = withLines(8, 6);
        x.addNote(0, RIGHT, 0, 1);
        Due.are("6 + 1 + 1 rows", Ask.best(x, 1), 0, 0, MISSING);
        x.set(2, 2);
        Due.are("6 + 2 + 1 rows", Ask.best(x, 0), MISSING, MISSING);
    }

    /** The gap counts between segments alone, and segments are aligned as on spreads. */
    private static void groupsKeepGapsAndStarts() {
        BilingualSetter x = withLines(8, 4, 1);
        x.set(1, 3);
        Due.are("4 + 3 + 1 rows", Ask.best(x, 1), 0, 0, MISSING);
        x.setLines(1, RIGHT, 2);
        Due.are("4 + 3 + 2 rows", Ask.best(x, 2), 16 + 16, 0, 1, MISSING);
        x = withLines(8, 6, 2);
        x.setLines(0, RIGHT, 1);
        x.setLines(1, RIGHT, 7);
        Due.are("6 + 2 and 1 + 7 rows", Ask.best(x, 1), 0, 0, MISSING);
        x.set(5, 1);
        Due.are("aligned 6 + 7 rows", Ask.best(x, 2), 4 + 49, 0, 1, MISSING);
    }

    /** "with nothing carried from it", though spreads could. */
    private static void nothingIsCarriedFromAGroup() {
        BilingualSetter x = withLines(8, 4);
        x.set(4, 5);
        x.addNote(0, LEFT, 0, 3);
        Due.are("4 + 1 + 3 rows", Ask.best(x, 1), 0, 0, MISSING);
        x.removeNote(LEFT, 0);
        x.addNote(0, LEFT, 0, 4);
        Due.are("4 + 1 + 4 rows", Ask.best(x, 0), MISSING, MISSING);
        Due.are("the spread is not overfull", new int[] {x.isOverfull(0), x.pageInfo(0, LEFT, 4)}, 0, 1);
        x.set(2, 0);
        Due.are("4 + 0 + 4 rows", Ask.best(x, 1), 0, 0, MISSING);
    }

    /** "or to it": the groups are not the spreads. */
    private static void nothingIsCarriedToAGroup() {
        BilingualSetter x = withLines(8, 2, 3);
        x.addNote(0, LEFT, 0, 5);
        // The spread has 2 + 3 + 1 + 2 rows and carries 3 lines; the first group has 2 + 1 + 5 rows and none.
        Due.are("segments", Ask.segmentCounts(x), 2, 0);
        Due.are("groups", Ask.best(x, 2), 0 + 36, 0, 1, MISSING);
        x.insert(2, 5, 5);
        // Nothing stands on the last groups' pages but their text.
        Due.are("3 + 5 rows", Ask.best(x, 2), 0 + 36, 0, 1, MISSING);
    }

    /** "and each pair with a break before it begins a group" */
    private static void breaksBeginGroups() {
        BilingualSetter x = withLines(8, 1, 1, 1);
        x.setFlag(0, 1, 1);
        Due.are("before the first pair", Ask.best(x, 1), 0, 0, MISSING);
        x.setFlag(2, 1, 1);
        Due.are("before the last pair", Ask.best(x, 2), 2 * 36, 0, 2, MISSING);
        x.setFlag(1, 1, 1);
        Due.are("before all", Ask.best(x, 3), 4 * 49, 0, 1, 2, MISSING);
        x.setFlag(2, 1, 0);
        Due.are("before the first two", Ask.best(x, 2), 2 * 49, 0, 1, MISSING);
    }

    /** "as whole segments": nothing is split, and whether pairs are kept does not matter. */
    private static void wholeSegments() {
        BilingualSetter x = withLines(8, 6, 4, 2);
        Due.are("the spread splits the second pair", new int[] {x.segmentInfo(0, 1, 7), x.segmentInfo(0, 1, 2)}, 1, 2);
        Due.are("the groups do not", Ask.best(x, 2), 4 + 4, 0, 1, MISSING);
        setFlags(x, 0);
        Due.are("kept pairs", Ask.best(x, 2), 4 + 4, 0, 1, MISSING);
        x.set(3, 4);
        Due.are("least does not matter", Ask.best(x, 2), 4 + 4, 0, 1, MISSING);
    }

    // ---- costs

    /** "of all groups but the last one" */
    private static void lastGroupCostsNothing() {
        Due.are("one group", Ask.best(withLines(60, 1), 1), 0, 0, MISSING);
        Due.are("a last group with 7 blank rows", Ask.best(withLines(8, 8, 1), 2), 0, 0, 1, MISSING);
        Due.are("a first group with 7 blank rows", Ask.best(withLines(8, 1, 8), 2), 2 * 49, 0, 1, MISSING);
    }

    /** "the sum of the squares of the blank rows of both pages", notes and their rule not being blank */
    private static void blankRowsOfBothPages() {
        BilingualSetter x = withLines(8, 5, 8);
        x.setLines(0, RIGHT, 7);
        Due.is("3 and 1", x.bestCost(), 9 + 1);
        x.addNote(0, LEFT, 0, 1);
        Due.is("1 and 1", x.bestCost(), 1 + 1);
        x.set(2, 2);
        Due.is("0 and 1", x.bestCost(), 0 + 1);
        x.setLines(0, RIGHT, 8);
        Due.is("0 and 0", x.bestCost(), 0);
    }

    /** "of several, the one whose first group has most pairs" */
    private static void longestFirstGroup() {
        Due.are("2 + 1 rather than 1 + 2", Ask.best(withLines(8, 3, 3, 3, 8), 3), 2 * 4 + 2 * 25, 0, 2, 3, MISSING);
    }

    /** "of these, the one whose second group has most pairs" */
    private static void longestSecondGroup() {
        Due.are("1 + 2 + 1 rather than 1 + 1 + 2", Ask.best(withLines(8, 8, 3, 3, 3, 8), 4),
                2 * 4 + 2 * 25, 0, 1, 3, 4, MISSING);
    }

    /** "and so on" */
    private static void longestThirdGroup() {
        Due.are("1 + 1 + 2 + 1 rather than 1 + 1 + 1 + 2", Ask.best(withLines(8, 8, 8, 3, 3, 3, 8), 5),
                2 * 4 + 2 * 25, 0, 1, 2, 4, 5, MISSING);
        Due.are("2 + 1 + 2 + 1 rather than any other", Ask.best(withLines(8, 3, 3, 3, 8, 3, 3, 3, 8), 6),
                2 * (4 + 25 + 4 + 25), 0, 2, 3, 4, 6, 7, MISSING);
    }

    /** "The best division is the one with the least cost": a longer first group does not make up for one more. */
    private static void leastCostBeforeLongestGroup() {
        BilingualSetter x = withLines(8, 3, 4, 3, 8);
        // 3 + 4 | 3 | 8 costs 2 * (1 + 25), 3 | 4 + 3 | 8 costs 2 * (25 + 1).
        Due.are("the same cost", Ask.best(x, 3), 2 * (1 + 25), 0, 2, 3, MISSING);
        x.setLines(2, LEFT, 4);
        // 3 + 4 | 4 | 8 costs 1 + 16 on the left, 3 | 4 + 4 | 8 costs 25 + 0.
        Due.are("the longer one is cheaper", Ask.best(x, 3), 1 + 16 + 26, 0, 2, 3, MISSING);
        x.setLines(2, LEFT, 3);
        x.setLines(0, RIGHT, 4);
        // 4 + 4 | 3 | 8 costs 0 + 25 on the right, 4 | 4 + 3 | 8 costs 16 + 1.
        Due.are("the shorter one is cheaper", Ask.best(x, 3), 26 + 16 + 1, 0, 1, 3, MISSING);
    }

    // ---- the promises 23 and 24

    private static void promise23GreatestCost() {
        BilingualSetter x = withLines(60, twenty(1));
        Due.is("one group", x.bestCost(), 0);
        setFlags(x, 1);
        Due.is("19 groups with 59 blank rows on both pages", x.bestCost(), 19 * 2 * 59 * 59);
        FOUR.unchanged("bestCost", 2 * 4 + 2 * 25, y -> y.bestCost());
    }

    /** "INVALID_ARGUMENT if group is negative", whether a division is allowed or not. */
    private static void promise24RangeOfBestBreak() {
        FOUR.fromZero("group of bestBreak", (x, group) -> x.bestBreak(group));
        NOT_ALLOWED.fromZero("group of bestBreak if none is allowed", (x, group) -> x.bestBreak(group));
        EMPTY.fromZero("group of bestBreak without pairs", (x, group) -> x.bestBreak(group));
    }

    private static void promise24NotSoManyGroups() {
        FOUR.unchanged("the last of 3 groups", 3, x -> x.bestBreak(2));
        FOUR.unchanged("group 3 of 3", MISSING, x -> x.bestBreak(3));
        FOUR.unchanged("the greatest number", MISSING, x -> x.bestBreak(Integer.MAX_VALUE));
    }

    private static void promise24OneToTwentyGroups() {
        BilingualSetter x = withLines(60, twenty(3));
        Due.are("20 pairs in one group of 60 rows", Ask.best(x, 1), 0, 0, MISSING);
        setFlags(x, 1);
        Due.are("20 groups", new int[] {x.bestBreak(0), x.bestBreak(18), x.bestBreak(19), x.bestBreak(20), x.bestBreak(21)},
                0, 18, 19, MISSING, MISSING);
        x.set(0, 8);
        Due.is("20 groups of 8 rows", x.bestBreak(19), 19);
    }

    // ---- the promises 25 and 26

    /** "spreads: 1 to 40" */
    private static void promise25RangeOfLeastHeight() {
        FOUR.range("spreads of leastHeight", 1, 40, (x, spreads) -> x.leastHeight(spreads));
        EMPTY.range("spreads of leastHeight without pairs", 1, 40, (x, spreads) -> x.leastHeight(spreads));
    }

    /** "Returns the height, 8 to 60" */
    private static void promise25LeastAndGreatestHeight() {
        Due.is("no pairs", new BilingualSetter().leastHeight(1), 8);
        Due.is("8 rows", withLines(20, 8).leastHeight(1), 8);
        Due.is("9 rows", withLines(20, 9).leastHeight(1), 9);
        Due.is("59 rows", withLines(20, 30, 29).leastHeight(1), 59);
        Due.is("60 rows", withLines(20, 30, 30).leastHeight(1), 60);
        FOUR.unchanged("a height between them", 17, x -> x.leastHeight(1));
    }

    /** "NOT_FOUND if it is so for no height", but INVALID_ARGUMENT rather than that. */
    private static void promise25NoHeight() {
        Twins long61 = new Twins(x -> x.set(1, 1), x -> x.insert(0, 30, 30), x -> x.insert(1, 30, 30));
        long61.unchanged("30 + 1 + 30 rows on one spread", MISSING, x -> x.leastHeight(1));
        long61.unchanged("30 rows on each of two spreads", 30, x -> x.leastHeight(2));
        long61.unchanged("on no spread", INVALID, x -> x.leastHeight(0));
        BilingualSetter x = withLines(20, twenty(1));
        setFlags(x, 1);
        Due.are("20 breaks", new int[] {x.leastHeight(1), x.leastHeight(19), x.leastHeight(20)}, MISSING, MISSING, 8);
    }

    private static void promise25FortySpreads() {
        BilingualSetter x = withLines(20, twenty(30));
        setFlags(x, 1);
        // 20 times 15 + 15 rows; with 14 rows there are 3 spreads for each pair.
        Due.are("20 pairs of 30 lines", new int[] {x.leastHeight(40), x.leastHeight(39), x.leastHeight(41)}, 15, 30, INVALID);
        x.set(0, 14);
        Due.is("spreads with 14 rows", x.spreadCount(), 60);
    }

    /** "with which the spreads would be at most a number": a spread of carried lines alone and an overfull one count too. */
    private static void promise25AtMostSoManySpreads() {
        BilingualSetter x = withLines(20, 6);
        x.addNote(0, LEFT, 5, 3);
        // 6 + 1 + 1 rows and 2 carried lines; in 9 rows one line is carried, and in 10 none.
        Due.are("a note", new int[] {x.leastHeight(1), x.leastHeight(2), x.leastHeight(40)}, 10, 8, 8);
        x = withLines(20, 30);
        x.setFlag(0, 0, 1);
        Due.is("an overfull spread", x.leastHeight(1), 8);
        x = withLines(20, 9, 8);
        x.set(3, 4);
        x.setLines(0, RIGHT, 7);
        // The first pair cannot be split: with 8 rows it is overfull.
        Due.are("no split", new int[] {x.leastHeight(1), x.leastHeight(2)}, 17, 8);
    }

    /** "all else being as it is": the height that is set does not matter, and stays. */
    private static void promise25AllElseAsItIs() {
        for (int height : new int[] {8, 20, 60}) {
            BilingualSetter x = withLines(height, 10, 20);
            Due.are("heights of " + height, new int[] {x.leastHeight(1), x.leastHeight(2), x.leastHeight(1), x.set(0, 9)}, 30,
                    15, 30, height);
            Due.is("the other settings are used", x.set(1, 3), 0);
            Due.is("a gap of 3", x.leastHeight(1), 33);
        }
    }

    /** "height: 8 to 60" */
    private static void promise26RangeOfOverfullWith() {
        FOUR.range("height of overfullWith", 8, 60, (x, height) -> x.overfullWith(height));
        EMPTY.range("height of overfullWith without pairs", 8, 60, (x, height) -> x.overfullWith(height));
    }

    private static void promise26NoneAndAll() {
        BilingualSetter x = withLines(20, twenty(30));
        Due.are("pairs that can be split", new int[] {x.overfullWith(8), x.overfullWith(60)}, 0, 0);
        setFlags(x, 0);
        Due.are("20 kept pairs", new int[] {x.overfullWith(8), x.overfullWith(29), x.overfullWith(30), x.overfullWith(60)}, 20,
                20, 0, 0);
        Due.are("20 overfull spreads, and 10 with two pairs each", new int[] {x.overfullWith(8), x.overfullWith(60)}, 20, 0);
        x = withLines(20, 9);
        x.setFlag(0, 0, 1);
        x.addNote(0, LEFT, 0, 10);
        // With 16 rows one line too many, with 17 rows 9 + 1 + 10 - 3.
        Due.are("a pair with a note, and its carried lines", new int[] {x.overfullWith(8), x.overfullWith(16),
                x.overfullWith(17)}, 1, 1, 0);
        Due.is("no pairs", new BilingualSetter().overfullWith(8), 0);
    }

    /** "all else being as it is" */
    private static void promise26AllElseAsItIs() {
        for (int height : new int[] {8, 20, 60}) {
            BilingualSetter x = withLines(height, 10);
            x.setFlag(0, 0, 1);
            Due.are("heights of " + height, new int[] {x.overfullWith(9), x.isOverfull(0), x.overfullWith(10), x.isOverfull(0),
                    x.set(0, 9)},
                    1, height < 10 ? 1 : 0, 0, height < 10 ? 1 : 0, height);
        }
        FOUR.unchanged("overfullWith", 0, x -> x.overfullWith(60));
    }
}
