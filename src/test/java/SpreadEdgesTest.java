/**
 * The boundary cases of the document's part 'Spreads' and of the promises 14 to 22 and 27, worked out
 * by hand. Each method stands for one sentence, which is told above it.
 */
final class SpreadEdgesTest {
    private static final int INVALID = -1;
    private static final int MISSING = -4;
    private static final int GREATEST_INT = Integer.MAX_VALUE;
    private static final int RULE = 30000;
    private static final int LEFT = 0;
    private static final int RIGHT = 1;
    private static final int[] SIDES = {LEFT, RIGHT};

    /**
     * Four spreads of 8 rows: a part of 8 and 7 lines; the rest of 4 and 3, and a kept pair of 3 and 4;
     * a pair behind a break, with a right note, of which the last spread contains 2 lines.
     */
    private static final Twins FOUR = new Twins(
            x -> x.set(0, 8),
            x -> x.insert(0, 12, 10), x -> x.insert(1, 3, 4), x -> x.insert(2, 5, 5),
            x -> x.addNote(2, 1, 4, 4),
            x -> x.setFlag(1, 0, 1), x -> x.setFlag(2, 1, 1));
    private static final Twins EMPTY = new Twins();

    private SpreadEdgesTest() {
    }

    public static void main(String[] args) {
        rowsOfText();
        rowsOfNotes();
        whatFits();
        howASpreadEnds();
        whatIsSplit();
        whatIsCarried();
        promises14To18();
        promises19To27();
        Due.end("SpreadEdgesTest");
    }

    private static void rowsOfText() {
        firstSegmentsBeginInRow0();
        gapBehindTheLastLine();
        gapBehindTheLongerSide();
        noTextRowsWithoutSegments();
    }

    private static void rowsOfNotes() {
        noNoteRowsWithoutNoteLines();
        blankRowsAreNotNegative();
        noteRowsStandAtTheFoot();
        noteRowsStandBehindTheText();
        costWithoutTheLastSpread();
    }

    private static void whatFits() {
        textRowsAtMostHeight();
        noteRowsAtMostHeight();
        fitsWithTheMostCarried();
        eachPageMustFit();
    }

    private static void howASpreadEnds() {
        noBreakBeforeTheFirstSegment();
        breakBehindASegment();
        breakOfAPairOfWhichSomethingHasBeenSet();
        allRemainingLinesFit();
        keptPair();
        spreadEndsBehindAPart();
        spreadEndsBeforeAPairThatDoesNotFit();
        overfullIfThereIsNoSegment();
        overfullRestOfAPair();
        spreadEndsBehindAnOverfullPair();
    }

    private static void whatIsSplit() {
        leastLeftLinesOfThePart();
        leastRightLinesOfThePart();
        leastLeftLinesOfTheRest();
        leastRightLinesOfTheRest();
        pairThatCannotBeSplit();
        rightLinesAreRoundedHalfUp();
        proportionOfTheRemainingLines();
        greatestPartThatFits();
    }

    private static void whatIsCarried() {
        upToCarryButTheFirstLineStays();
        onlyTheLastNoteIsCarried();
        nothingIsCarriedWithoutOwnNotes();
        leastNumberThatFits();
        asManyAsPossibleIfNoneFits();
        oneMoreSpreadForCarriedLines();
        noFurtherSpreadIfAnotherFollows();
        noFurtherSpreadIfNothingIsCarried();
    }

    private static void promises14To18() {
        promise14Counts();
        promise14FullestEdition();
        promise15RangeOfSegmentCount();
        promise16RangesOfSegmentInfo();
        promise16NotSoManySegments();
        promise16GoesOn();
        promise17RangesOfPageInfo();
        promise17NotesOfItsLines();
        promise18RangeOfIsOverfull();
    }

    private static void promises19To27() {
        promise19RangesOfSpreadOf();
        promise19LinesBesideASplit();
        promise20RangesOfRowOf();
        promise20LinesBesideASplit();
        promise21RangesOfShown();
        promise21GreatestNumbers();
        promise21Row99();
        promise21LinesOfACarriedNote();
        promise22CostOfNoneAndOne();
        promise27MoreThanOneSpread();
    }

    private static BilingualSetter withHeight(int height) {
        BilingualSetter x = new BilingualSetter();
        x.set(0, height);
        return x;
    }

    /** An edition of pairs with as many left as right lines. */
    private static BilingualSetter withLines(int height, int gap, int... lines) {
        BilingualSetter x = withHeight(height);
        x.set(1, gap);
        for (int pair = 0; pair < lines.length; pair++) {
            x.insert(pair, lines[pair], lines[pair]);
        }
        return x;
    }

    /** A kept pair of so many lines, with a note of its last line on one side. */
    private static BilingualSetter withNote(int height, int lines, int side, int length) {
        BilingualSetter x = withLines(height, 1, lines);
        x.setFlag(0, 0, 1);
        x.addNote(0, side, lines - 1, length);
        return x;
    }

    // ---- rows of text

    /** "The first segment of a page begins in row 0." */
    private static void firstSegmentsBeginInRow0() {
        for (int align = 0; align <= 1; align++) {
            BilingualSetter x = FOUR.make();
            x.set(5, align);
            for (int spread = 0; spread <= 2; spread++) {
                Due.are("first segments, align " + align, new int[] {x.segmentInfo(spread, 0, 5), x.segmentInfo(spread, 0, 6)},
                        0, 0);
            }
        }
        BilingualSetter x = withNote(8, 6, LEFT, 4);
        x.insert(1, 2, 2);
        x.setFlag(1, 0, 1);
        Due.are("on a page with carried lines", new int[] {x.pageInfo(1, LEFT, 3), x.segmentInfo(1, 0, 5)}, 3, 0);
    }

    /** "If align is 0, each further segment begins, on each page, gap rows behind the last line of the segment before it" */
    private static void gapBehindTheLastLine() {
        BilingualSetter x = withHeight(20);
        x.insert(0, 2, 4);
        x.insert(1, 1, 1);
        x.insert(2, 3, 2);
        x.set(1, 0);
        Due.are("gap 0, left", Ask.begins(x, 0, LEFT), 0, 2, 3);
        Due.are("gap 0, right", Ask.begins(x, 0, RIGHT), 0, 4, 5);
        x.set(1, 3);
        Due.are("gap 3, left", Ask.begins(x, 0, LEFT), 0, 5, 9);
        Due.are("gap 3, right", Ask.begins(x, 0, RIGHT), 0, 7, 11);
        Due.are("there is no gap behind the last segment", new int[] {x.pageInfo(0, LEFT, 0), x.pageInfo(0, RIGHT, 0)}, 12, 13);
    }

    /** "If align is 1, it begins on both pages gap rows behind the longer one of both sides of the segment before it." */
    private static void gapBehindTheLongerSide() {
        BilingualSetter x = withHeight(30);
        x.insert(0, 2, 4);
        x.insert(1, 3, 1);
        x.insert(2, 2, 2);
        x.insert(3, 1, 2);
        x.set(5, 1);
        x.set(1, 0);
        Due.are("gap 0, left", Ask.begins(x, 0, LEFT), 0, 4, 7, 9);
        Due.are("gap 0, right", Ask.begins(x, 0, RIGHT), 0, 4, 7, 9);
        x.set(1, 3);
        Due.are("gap 3, left", Ask.begins(x, 0, LEFT), 0, 7, 13, 18);
        Due.are("gap 3, right", Ask.begins(x, 0, RIGHT), 0, 7, 13, 18);
        Due.are("the last segment's shorter side is not filled", new int[] {x.pageInfo(0, LEFT, 0), x.pageInfo(0, RIGHT, 0)},
                19, 20);
    }

    /** "The text rows of a page are the number of the row behind its last line (0 without segments)." */
    private static void noTextRowsWithoutSegments() {
        BilingualSetter x = FOUR.make();
        Due.are("the spread without segments", Ask.page(x, 3, LEFT), 0, 0, 8, 0, 0, 0);
        Due.are("its page with carried lines", Ask.page(x, 3, RIGHT), 0, 3, 5, 2, 0, 0);
        x = withLines(8, 3, 1);
        Due.is("one line", x.pageInfo(0, LEFT, 0), 1);
    }

    // ---- rows of notes

    /** "If there are any note lines on the page, the note rows are rule plus their number; otherwise 0." */
    private static void noNoteRowsWithoutNoteLines() {
        for (int rule = 0; rule <= 2; rule++) {
            BilingualSetter x = withNote(20, 5, RIGHT, 1);
            x.set(2, rule);
            Due.are("one note line and none, rule " + rule, new int[] {x.pageInfo(0, RIGHT, 1), x.pageInfo(0, LEFT, 1)},
                    rule + 1, 0);
            x = FOUR.make();
            x.set(2, rule);
            x.setLines(2, 0, 8 - rule);
            x.setLines(2, 1, 7 - rule);
            // One line of the note stays, 3 are carried.
            Due.are("carried lines alone and none, rule " + rule, new int[] {x.pageInfo(3, RIGHT, 1), x.pageInfo(3, LEFT, 1)},
                    rule + 3, 0);
        }
    }

    /** "The blank rows of a page are height minus text rows minus note rows, but at least 0." */
    private static void blankRowsAreNotNegative() {
        BilingualSetter x = withLines(8, 1, 7);
        x.setFlag(0, 0, 1);
        Due.is("one row", x.pageInfo(0, LEFT, 2), 1);
        x.setLines(0, LEFT, 8);
        Due.is("none", x.pageInfo(0, LEFT, 2), 0);
        x.setLines(0, LEFT, 9);
        Due.is("one row too many", x.pageInfo(0, LEFT, 2), 0);
        x.setLines(0, LEFT, 30);
        Due.are("many rows too many, the other page", new int[] {x.pageInfo(0, LEFT, 2), x.pageInfo(0, RIGHT, 2)}, 0, 1);
        x = withNote(8, 6, LEFT, 1);
        Due.is("none with a note", x.pageInfo(0, LEFT, 2), 0);
        x.addNote(0, LEFT, 0, 1);
        Due.is("one row too many with notes", x.pageInfo(0, LEFT, 2), 0);
    }

    /** "The note rows begin at the row height minus note rows" */
    private static void noteRowsStandAtTheFoot() {
        BilingualSetter x = withNote(8, 5, LEFT, 1);
        Due.are("a blank row before them", Ask.shown(x, 0, LEFT, 9), 10000, 10001, 10002, 10003, 10004, 0, RULE, 20000, 0);
        x.addNote(0, LEFT, 4, 1);
        Due.are("no blank row before them", Ask.shown(x, 0, LEFT, 9), 10000, 10001, 10002, 10003, 10004, RULE, 20000, 20100, 0);
        x = FOUR.make();
        Due.are("a page without text", Ask.shown(x, 3, RIGHT, 9), 0, 0, 0, 0, 0, RULE, 20002, 20003, 0);
    }

    /** "but not before the row behind the text rows" */
    private static void noteRowsStandBehindTheText() {
        BilingualSetter x = withNote(8, 7, LEFT, 1);
        Due.are("one row too many", Ask.shown(x, 0, LEFT, 10), 10000, 10001, 10002, 10003, 10004, 10005, 10006, RULE, 20000, 0);
        x = withNote(8, 9, RIGHT, 1);
        x.set(2, 0);
        Due.are("text to row 8 of 8", new int[] {x.shown(0, RIGHT, 8), x.shown(0, RIGHT, 9), x.shown(0, RIGHT, 10)}, 10008,
                20000, 0);
    }

    /** "The cost of the spreads is the sum of the squares of the blank rows of both pages of all spreads but the last one." */
    private static void costWithoutTheLastSpread() {
        BilingualSetter x = withLines(8, 0, 7);
        Due.is("one spread is the last one", x.cost(), 0);
        x.insert(1, 5, 4);
        x.setFlag(1, 1, 1);
        Due.is("the first of two", x.cost(), 1 + 1);
        x.insert(2, 1, 1);
        x.setFlag(2, 1, 1);
        Due.is("the first two of three", x.cost(), 1 + 1 + 9 + 16);
        x = withNote(8, 6, LEFT, 2);
        Due.are("the spread without segments is the last one", new int[] {x.spreadCount(), x.cost()}, 2, 4);
        x = withLines(8, 0, 9, 1);
        x.setFlag(0, 0, 1);
        x.setFlag(1, 0, 1);
        Due.are("an overfull page has no blank rows", new int[] {x.spreadCount(), x.isOverfull(0), x.cost()}, 2, 1, 0);
    }

    // ---- what fits

    /** "Some segments fit on a spread if for both pages the text rows plus the note rows are at most height": text alone. */
    private static void textRowsAtMostHeight() {
        for (int height : new int[] {8, 20, 30}) {
            BilingualSetter x = withLines(height, 0, height - 1, 1);
            Due.are("all rows of " + height, Ask.segmentCounts(x), 2);
            x.insert(2, 1, 1);
            Due.are("a row more than " + height, Ask.segmentCounts(x), 2, 1);
        }
        BilingualSetter x = withLines(60, 0, 30, 30);
        Due.are("all rows of 60", Ask.segmentCounts(x), 2);
        x.insert(2, 1, 1);
        Due.are("a row more than 60", Ask.segmentCounts(x), 2, 1);
    }

    /** The same with notes of which nothing can be carried. */
    private static void noteRowsAtMostHeight() {
        for (int side : SIDES) {
            BilingualSetter x = withNote(8, 6, side, 1);
            Due.is("6 + 1 + 1 of 8 rows, side " + side, x.isOverfull(0), 0);
            x.set(2, 2);
            Due.is("6 + 2 + 1 of 8 rows, side " + side, x.isOverfull(0), 1);
            x.set(2, 0);
            x.addNote(0, side, 0, 1);
            Due.is("6 + 0 + 2 of 8 rows, side " + side, x.isOverfull(0), 0);
            x.addNote(0, side, 0, 1);
            Due.is("6 + 0 + 3 of 8 rows, side " + side, x.isOverfull(0), 1);
        }
    }

    /** "if as many lines as possible are carried" */
    private static void fitsWithTheMostCarried() {
        for (int side : SIDES) {
            Due.is("4 + 1 + 8 - 3 of 10 rows, side " + side, withNote(10, 4, side, 8).isOverfull(0), 0);
            Due.is("4 + 1 + 9 - 3 of 10 rows, side " + side, withNote(10, 4, side, 9).isOverfull(0), 1);
            BilingualSetter x = withNote(10, 4, side, 10);
            x.set(4, 5);
            Due.is("4 + 1 + 10 - 5 of 10 rows, side " + side, x.isOverfull(0), 0);
            x.set(4, 4);
            Due.is("4 + 1 + 10 - 4 of 10 rows, side " + side, x.isOverfull(0), 1);
            Due.is("8 + 1 + 2 - 1 of 10 rows, side " + side, withNote(10, 8, side, 2).isOverfull(0), 0);
            Due.is("9 + 1 + 2 - 1 of 10 rows, side " + side, withNote(10, 9, side, 2).isOverfull(0), 1);
        }
    }

    /** "for both pages" */
    private static void eachPageMustFit() {
        BilingualSetter x = withHeight(8);
        x.insert(0, 8, 1);
        x.insert(1, 1, 8);
        x.setFlag(0, 0, 1);
        x.setFlag(1, 0, 1);
        Due.are("8 rows of one side", Ask.overfull(x), 0, 0);
        x.setLines(0, LEFT, 9);
        Due.are("9 left rows", Ask.overfull(x), 1, 0);
        x.setLines(0, LEFT, 8);
        x.setLines(1, RIGHT, 9);
        Due.are("9 right rows", Ask.overfull(x), 0, 1);
    }

    // ---- how a spread ends

    /** "If it has segments already, and the next pair has a break before it": no spread ends without segments by a break. */
    private static void noBreakBeforeTheFirstSegment() {
        BilingualSetter x = withLines(8, 0, 2);
        x.setFlag(0, 1, 1);
        Due.are("before the first pair of all", Ask.segmentCounts(x), 1);
        x.insert(1, 2, 2);
        Due.are("and another pair goes on behind it", Ask.segmentCounts(x), 2);
        x = withLines(8, 0, 8, 2);
        x.setFlag(1, 1, 1);
        Due.are("before a pair that begins a spread anyway", Ask.segmentCounts(x), 1, 1);
        x = withLines(8, 0, 9, 2);
        x.setFlag(0, 0, 1);
        x.setFlag(1, 1, 1);
        Due.are("behind an overfull spread", Ask.segmentCounts(x), 1, 1);
    }

    /** "the spread ends" */
    private static void breakBehindASegment() {
        BilingualSetter x = withLines(60, 0, 1, 1);
        Due.are("no break", Ask.segmentCounts(x), 2);
        x.setFlag(1, 1, 1);
        Due.are("a break", Ask.segmentCounts(x), 1, 1);
        x = withLines(60, 0, 1, 1, 1, 1, 1, 1, 1, 1, 1, 1, 1, 1, 1, 1, 1, 1, 1, 1, 1, 1);
        Due.are("20 pairs", Ask.segmentCounts(x), 20);
        for (int pair = 0; pair < 20; pair++) {
            x.setFlag(pair, 1, 1);
        }
        Due.are("20 pairs with 20 breaks", new int[] {x.spreadCount(), x.spreadOf(19, 0, 0)}, 20, 19);
    }

    /** "of which nothing has been set": the rest of a split pair has no break before it. */
    private static void breakOfAPairOfWhichSomethingHasBeenSet() {
        BilingualSetter x = withLines(8, 0, 12, 4);
        x.setFlag(0, 1, 1);
        Due.are("the rest and a whole pair", Ask.segmentCounts(x), 1, 2);
        Due.are("the rest", Ask.segment(x, 1, 0), 0, 8, 4, 8, 4, 0, 0, 0);
        x.setFlag(1, 1, 1);
        Due.are("the rest and a break", Ask.segmentCounts(x), 1, 1, 1);
    }

    /** "If all remaining lines of the next pair fit as a further segment, they become one." */
    private static void allRemainingLinesFit() {
        BilingualSetter x = withLines(8, 1, 3, 4);
        Due.are("3 + 1 + 4 of 8 rows", Ask.segment(x, 0, 1), 1, 0, 4, 0, 4, 4, 4, 0);
        x.setLines(1, LEFT, 5);
        Due.are("3 + 1 + 5 of 8 rows", Ask.segment(x, 0, 1), 1, 0, 3, 0, 2, 4, 4, 1);
        x = withLines(8, 1, 16);
        Due.are("a rest of 8 rows", Ask.segmentCounts(x), 1, 1);
        x = withLines(8, 1, 17);
        Due.are("a rest of 9 rows", Ask.segmentCounts(x), 1, 1, 1);
        Due.are("is split itself", Ask.segment(x, 1, 0), 0, 8, 7, 8, 7, 0, 0, 1);
    }

    /** "Otherwise, if the pair is not kept, ..": a kept pair is not split, though it could be. */
    private static void keptPair() {
        BilingualSetter x = withLines(8, 0, 2, 8);
        x.setFlag(1, 0, 1);
        Due.are("it has room on the next spread", Ask.segmentCounts(x), 1, 1);
        Due.are("and just fits there", Ask.overfull(x), 0, 0);
        x.setLines(1, RIGHT, 9);
        Due.are("with a row more", Ask.segmentCounts(x), 1, 1);
        Due.are("it is overfull", Ask.overfull(x), 0, 1);
        x.setFlag(1, 0, 0);
        Due.are("not kept", Ask.segmentCounts(x), 2, 1);
        x = withLines(8, 0, 2, 6);
        x.setFlag(1, 0, 1);
        Due.are("a kept pair that fits as a further segment", Ask.segmentCounts(x), 2);
    }

    /** "they become one for the greatest such x, and the spread ends": even if there are blank rows. */
    private static void spreadEndsBehindAPart() {
        BilingualSetter x = withLines(12, 0, 20, 1);
        x.addNote(0, RIGHT, 8, 7);
        // A part of 9 lines would have 1 + 7 - 3 note rows, and so 14 rows.
        Due.are("the part", Ask.segment(x, 0, 0), 0, 0, 8, 0, 8, 0, 0, 1);
        Due.are("its page", Ask.page(x, 0, RIGHT), 8, 0, 4, 0, 0, 0);
        Due.is("no further segment", x.segmentCount(0), 1);
        x = withLines(8, 0, 4);
        x.set(3, 1);
        x.insert(1, 10, 24);
        // x = 2 gives y = (96 + 10) / 20 = 5, x = 1 gives 2. Of the rest, x = 1 would give (44 + 9) / 18 = 2 of the 2 rows.
        Due.are("a part of a pair", Ask.segment(x, 0, 1), 1, 0, 1, 0, 2, 4, 4, 1);
        Due.are("a second part of it would fit", new int[] {x.segmentCount(0), x.pageInfo(0, RIGHT, 2)}, 2, 2);
    }

    /** "Otherwise the spread ends": the pair begins the next spread, which it does not overfill. */
    private static void spreadEndsBeforeAPairThatDoesNotFit() {
        BilingualSetter x = withLines(8, 0, 5, 4);
        x.set(3, 3);
        Due.are("segments", Ask.segmentCounts(x), 1, 1);
        Due.are("the pair is whole", Ask.segment(x, 1, 0), 1, 0, 4, 0, 4, 0, 0, 0);
        Due.are("overfull", Ask.overfull(x), 0, 0);
    }

    /**
     * "but if it has no segments, all remaining lines of the pair become its segment nevertheless, and the
     * spread is overfull"
     */
    private static void overfullIfThereIsNoSegment() {
        BilingualSetter x = withLines(8, 0, 1, 30);
        x.setFlag(1, 0, 1);
        Due.are("segments", Ask.segmentCounts(x), 1, 1);
        Due.are("all lines", Ask.segment(x, 1, 0), 1, 0, 30, 0, 30, 0, 0, 0);
        Due.are("overfull", Ask.overfull(x), 0, 1);
        Due.are("its page", Ask.page(x, 1, LEFT), 30, 0, 0, 0, 0, 0);
        x = withNote(8, 1, LEFT, 10);
        Due.are("a line with a note of 10", Ask.overfull(x), 1, 0);
        x = withNote(8, 1, LEFT, 9);
        Due.are("a line with a note of 9", Ask.overfull(x), 0, 0);
    }

    /** "all remaining lines": those of a pair of which something has been set. */
    private static void overfullRestOfAPair() {
        BilingualSetter x = withLines(8, 0, 11);
        x.addNote(0, LEFT, 10, 10);
        // The rest has 3 + 1 + 10 - 3 rows, and 3 lines cannot be split.
        Due.are("segments", Ask.segmentCounts(x), 1, 1, 0);
        Due.are("the rest", Ask.segment(x, 1, 0), 0, 8, 3, 8, 3, 0, 0, 0);
        Due.are("overfull", Ask.overfull(x), 0, 1, 0);
        Due.are("its page", Ask.page(x, 1, LEFT), 3, 8, 0, 0, 3, 1);
    }

    /** An overfull spread ends: no break and no room on the other page matter. */
    private static void spreadEndsBehindAnOverfullPair() {
        BilingualSetter x = withLines(8, 0, 9, 1, 1);
        x.setFlag(0, 0, 1);
        x.setLines(0, RIGHT, 1);
        Due.are("segments", Ask.segmentCounts(x), 1, 2);
        Due.are("overfull", Ask.overfull(x), 1, 0);
    }

    // ---- what is split

    /** "x [is] at least least": the rows that are left on the spread are just enough, or one too few. */
    private static void leastLeftLinesOfThePart() {
        for (int least = 1; least <= 4; least++) {
            BilingualSetter x = withLines(8, 0, 8 - least, 10);
            x.set(3, least);
            Due.are("part of " + least + " lines", Ask.segment(x, 0, 1), 1, 0, least, 0, least, 8 - least, 8 - least, 1);
            x.setLines(0, LEFT, 9 - least);
            Due.is("no part of " + (least - 1) + " lines", x.segmentCount(0), 1);
            Due.are("it begins the next spread", new int[] {x.spreadOf(1, 0, 0), x.isOverfull(1)}, 1, 0);
        }
    }

    /** "y [is] at least least" */
    private static void leastRightLinesOfThePart() {
        BilingualSetter x = withLines(8, 0, 1);
        x.set(3, 4);
        x.insert(1, 16, 9);
        // x = 7 gives y = (126 + 16) / 32 = 4, x = 6 gives y = (108 + 16) / 32 = 3.
        Due.are("7 rows are left", Ask.segment(x, 0, 1), 1, 0, 7, 0, 4, 1, 1, 1);
        x.setLines(0, LEFT, 2);
        Due.are("6 rows are left", Ask.segmentCounts(x), 1, 1, 1);
        x.set(3, 3);
        Due.are("6 rows, and least 3", Ask.segment(x, 0, 1), 1, 0, 6, 0, 3, 2, 1, 1);
    }

    /** "p - x [is] at least least" */
    private static void leastLeftLinesOfTheRest() {
        BilingualSetter x = withLines(8, 0, 12);
        x.set(3, 4);
        Due.are("8 of 12 lines leave 4", Ask.segment(x, 0, 0), 0, 0, 8, 0, 8, 0, 0, 1);
        x.setLines(0, RIGHT, 16);
        x.setLines(0, LEFT, 11);
        // x = 7 gives y = (224 + 11) / 22 = 10; 5 lines give (160 + 11) / 22 = 7.
        Due.are("the right side allows 5", Ask.segment(x, 0, 0), 0, 0, 5, 0, 7, 0, 0, 1);
        x = withLines(8, 0, 11);
        x.set(3, 4);
        Due.are("8 of 11 lines would leave 3", Ask.segment(x, 0, 0), 0, 0, 7, 0, 7, 0, 0, 1);
    }

    /** "q - y [is] at least least" */
    private static void leastRightLinesOfTheRest() {
        BilingualSetter x = withHeight(8);
        x.set(3, 4);
        x.insert(0, 12, 8);
        // x = 8 and 7 give y = 5, which leaves 3 right lines; x = 6 gives y = (96 + 12) / 24 = 4.
        Due.are("4 right lines are left", Ask.segment(x, 0, 0), 0, 0, 6, 0, 4, 0, 0, 1);
        x.set(3, 3);
        Due.are("3 right lines are left", Ask.segment(x, 0, 0), 0, 0, 8, 0, 5, 0, 0, 1);
    }

    /** A side of 2 * least lines can be split, one of 2 * least - 1 cannot. */
    private static void pairThatCannotBeSplit() {
        int[] longest = {20, 18, 17, 16};
        for (int least = 1; least <= 4; least++) {
            BilingualSetter x = withHeight(20);
            x.set(3, least);
            x.insert(0, 2 * least, 30);
            Due.are("just enough left lines", Ask.segment(x, 0, 0), 0, 0, least, 0, 15, 0, 0, 1);
            x.setLines(0, LEFT, 2 * least - 1);
            Due.are("too few left lines for least " + least, Ask.segment(x, 0, 0), 0, 0, 2 * least - 1, 0, 30, 0, 0, 0);
            Due.are("so it is overfull", Ask.overfull(x), 1);
            x.setLines(0, LEFT, 30);
            x.setLines(0, RIGHT, 2 * least);
            Due.are("just enough right lines", Ask.segment(x, 0, 0), 0, 0, longest[least - 1], 0, least, 0, 0, 1);
            x.setLines(0, RIGHT, 2 * least - 1);
            Due.are("too few right lines for least " + least, Ask.segment(x, 0, 0), 0, 0, 30, 0, 2 * least - 1, 0, 0, 0);
            Due.are("so it is overfull", Ask.overfull(x), 1);
        }
    }

    /** "y = (2 * x * q + p) / (2 * p), rounded down" */
    private static void rightLinesAreRoundedHalfUp() {
        BilingualSetter x = withLines(8, 0, 6);
        x.set(3, 1);
        x.insert(1, 2, 3);
        Due.are("1.5 lines", Ask.segment(x, 0, 1), 1, 0, 1, 0, 2, 6, 6, 1);
        x.setLines(1, LEFT, 4);
        x.setLines(1, RIGHT, 2);
        // x = 2 gives y = (8 + 4) / 8 = 1.
        Due.are("1 line", Ask.segment(x, 0, 1), 1, 0, 2, 0, 1, 6, 6, 1);
        x.setLines(1, LEFT, 7);
        x.setLines(1, RIGHT, 5);
        // x = 2 gives y = (20 + 7) / 14 = 1, for 1.43.
        Due.are("less than 1.5 lines", Ask.segment(x, 0, 1), 1, 0, 2, 0, 1, 6, 6, 1);
        x.setLines(1, RIGHT, 6);
        // x = 2 gives y = (24 + 7) / 14 = 2, for 1.71.
        Due.are("more than 1.5 lines", Ask.segment(x, 0, 1), 1, 0, 2, 0, 2, 6, 6, 1);
    }

    /** "let p and q be the numbers of its remaining left and right lines" */
    private static void proportionOfTheRemainingLines() {
        BilingualSetter x = withHeight(8);
        x.insert(0, 30, 20);
        // 30:20 gives 8:5, 22:15 gives 8:5, and 14:10 gives 8:6, where 30:20 would give 5 again.
        Due.are("part 1", Ask.segment(x, 1, 0), 0, 8, 8, 5, 5, 0, 0, 1);
        Due.are("part 2", Ask.segment(x, 2, 0), 0, 16, 8, 10, 6, 0, 0, 1);
        Due.are("part 3", Ask.segment(x, 3, 0), 0, 24, 6, 16, 4, 0, 0, 0);
    }

    /** "for the greatest such x": it may be bounded by either side's text or notes. */
    private static void greatestPartThatFits() {
        BilingualSetter x = withHeight(8);
        x.set(3, 1);
        x.insert(0, 10, 20);
        Due.are("by the right lines", Ask.segment(x, 0, 0), 0, 0, 4, 0, 8, 0, 0, 1);
        x.setLines(0, RIGHT, 2);
        Due.are("by the left lines, and the right ones that are left", Ask.segment(x, 0, 0), 0, 0, 7, 0, 1, 0, 0, 1);
        x.setLines(0, RIGHT, 10);
        Due.are("by the left lines", Ask.segment(x, 0, 0), 0, 0, 8, 0, 8, 0, 0, 1);
        x.addNote(0, LEFT, 5, 1);
        Due.are("by a left note", Ask.segment(x, 0, 0), 0, 0, 6, 0, 6, 0, 0, 1);
        x.addNote(0, RIGHT, 4, 3);
        // 5 lines have 1 + 3 - 2 note rows: 7 rows; 6 lines have 8.
        Due.are("a right note of which 2 lines are carried", Ask.segment(x, 0, 0), 0, 0, 6, 0, 6, 0, 0, 1);
        x.set(4, 1);
        Due.are("a right note of which one line is carried", Ask.segment(x, 0, 0), 0, 0, 5, 0, 5, 0, 0, 1);
        x.set(4, 0);
        Due.are("by a right note", Ask.segment(x, 0, 0), 0, 0, 4, 0, 4, 0, 0, 1);
    }

    // ---- what is carried

    /** "has more than one line, up to carry of its last lines can be carried .., but at least its first line stays" */
    private static void upToCarryButTheFirstLineStays() {
        int[][] carried = {{1, 5, 0}, {2, 5, 1}, {5, 5, 4}, {6, 5, 5}, {7, 5, 5}, {10, 5, 5}, {10, 1, 1}, {2, 1, 1}, {2, 0, 0},
                {10, 0, 0}};
        for (int side : SIDES) {
            for (int[] one : carried) {
                BilingualSetter x = withNote(8, 8, side, one[0]);
                x.set(4, one[1]);
                Due.are("a note of " + one[0] + " lines, carry " + one[1] + ", side " + side,
                        new int[] {x.isOverfull(0), x.pageInfo(0, side, 4), x.pageInfo(0, side, 1), x.spreadCount()},
                        1, one[2], 1 + one[0] - one[2], one[2] == 0 ? 1 : 2);
            }
        }
    }

    /** "If the last of the notes that belong to the lines of this page": no line of a note before it. */
    private static void onlyTheLastNoteIsCarried() {
        BilingualSetter x = withNote(8, 6, LEFT, 10);
        x.addNote(0, LEFT, 5, 1);
        Due.are("the last one has one line", Ask.page(x, 0, LEFT), 6, 12, 0, 0, 0, 2);
        x.removeNote(0, 1);
        x.addNote(0, LEFT, 5, 2);
        Due.are("the last one has two", Ask.page(x, 0, LEFT), 6, 12, 0, 0, 1, 2);
        Due.is("its second line is carried", x.shown(1, LEFT, 7), 20101);
    }

    /** "(If no note belongs to lines of the page, nothing is carried.)" */
    private static void nothingIsCarriedWithoutOwnNotes() {
        BilingualSetter x = withNote(8, 6, LEFT, 10);
        x.set(4, 5);
        x.insert(1, 8, 8);
        x.setFlag(1, 0, 1);
        Due.are("five lines are carried to it", Ask.page(x, 1, LEFT), 8, 6, 0, 5, 0, 0);
        Due.are("overfull", Ask.overfull(x), 1, 1);
        Due.are("without any notes", Ask.page(x, 1, RIGHT), 8, 0, 0, 0, 0, 0);
    }

    /** "for each page the least number of lines is carried with which the text rows plus the note rows are at most height" */
    private static void leastNumberThatFits() {
        for (int side : SIDES) {
            for (int length = 1; length <= 8; length++) {
                BilingualSetter x = withNote(10, 4, side, length);
                int carried = Math.max(0, length - 5);
                Due.are("a note of " + length + " lines", Ask.page(x, 0, side), 4, 1 + length - carried, Math.max(0,
                        5 - length), 0, carried, 1);
            }
        }
        BilingualSetter x = withNote(10, 4, LEFT, 6);
        x.addNote(0, RIGHT, 3, 8);
        Due.are("each page for itself", new int[] {x.pageInfo(0, LEFT, 4), x.pageInfo(0, RIGHT, 4)}, 1, 3);
    }

    /** "if there is no such number, as many as possible" */
    private static void asManyAsPossibleIfNoneFits() {
        BilingualSetter x = withNote(10, 4, LEFT, 9);
        Due.are("a row too many", Ask.page(x, 0, LEFT), 4, 7, 0, 0, 3, 1);
        x.addNote(0, RIGHT, 0, 6);
        Due.are("the other page carries the least number", Ask.page(x, 0, RIGHT), 4, 6, 0, 0, 1, 1);
        x = withNote(8, 30, LEFT, 3);
        Due.are("many rows too many", Ask.page(x, 0, LEFT), 30, 2, 0, 0, 2, 1);
    }

    /**
     * "When all pairs have been set, and lines are carried, there is one more spread without segments, which
     * contains them."
     */
    private static void oneMoreSpreadForCarriedLines() {
        for (int side : SIDES) {
            BilingualSetter x = withNote(8, 6, side, 2);
            Due.are("segments", Ask.segmentCounts(x), 1, 0);
            Due.are("its page", Ask.page(x, 1, side), 0, 2, 6, 1, 0, 0);
            Due.are("the other page", Ask.page(x, 1, 1 - side), 0, 0, 8, 0, 0, 0);
            Due.are("what it shows", Ask.shown(x, 1, side, 9), 0, 0, 0, 0, 0, 0, RULE, 20001, 0);
            Due.is("it is not overfull", x.isOverfull(1), 0);
        }
        BilingualSetter x = withNote(8, 6, LEFT, 4);
        x.addNote(0, RIGHT, 5, 3);
        Due.are("lines of both pages", new int[] {x.spreadCount(), x.pageInfo(1, LEFT, 3), x.pageInfo(1, RIGHT, 3)}, 2, 3, 2);
        x = withNote(8, 8, LEFT, 10);
        x.set(2, 2);
        x.set(4, 5);
        Due.are("the greatest one that there is", Ask.page(x, 1, LEFT), 0, 7, 1, 5, 0, 0);
    }

    /** One more spread is made for lines that no other spread contains. */
    private static void noFurtherSpreadIfAnotherFollows() {
        BilingualSetter x = withNote(8, 6, LEFT, 4);
        x.insert(1, 4, 4);
        Due.are("segments", Ask.segmentCounts(x), 1, 1);
        Due.are("the last page", Ask.page(x, 1, LEFT), 4, 4, 0, 3, 0, 0);
    }

    private static void noFurtherSpreadIfNothingIsCarried() {
        BilingualSetter x = withNote(8, 6, LEFT, 1);
        Due.are("one line", Ask.segmentCounts(x), 1);
        x = withNote(8, 6, LEFT, 2);
        x.set(4, 0);
        Due.are("carry 0", Ask.segmentCounts(x), 1);
        Due.are("a page that is just full", Ask.segmentCounts(withNote(8, 5, LEFT, 2)), 1);
        Due.are("no pairs", Ask.segmentCounts(new BilingualSetter()));
    }

    // ---- the promises 14 to 18

    private static void promise14Counts() {
        BilingualSetter x = new BilingualSetter();
        Due.is("no pairs", x.spreadCount(), 0);
        x.insert(0, 1, 1);
        Due.is("one line", x.spreadCount(), 1);
        x.remove(0);
        Due.is("no pairs again", x.spreadCount(), 0);
        FOUR.unchanged("spreadCount", 4, y -> y.spreadCount());
        x = withHeight(8);
        for (int pair = 0; pair < 20; pair++) {
            x.insert(pair, 30, 30);
            x.setFlag(pair, 1, 1);
        }
        // 8, 8, 8 and 6 lines of each pair.
        Due.are("20 long pairs with breaks", new int[] {x.spreadCount(), x.spreadOf(19, 1, 29), x.segmentCount(79),
                x.segmentCount(80)},
                80, 79, 1, INVALID);
    }

    /** 20 pairs of 30 lines with 40 notes of 10 lines on the least pages: each line stands in one segment. */
    private static void promise14FullestEdition() {
        for (int side : SIDES) {
            BilingualSetter x = withHeight(8);
            x.set(3, 1);
            x.set(4, 5);
            for (int pair = 0; pair < 20; pair++) {
                x.insert(pair, 30, 30);
                x.addNote(pair, LEFT, pair, 10);
                x.addNote(pair, RIGHT, 29 - pair, 10);
            }
            int spreads = x.spreadCount();
            int segments = 0;
            int lines = 0;
            for (int spread = 0; spread < spreads; spread++) {
                int count = x.segmentCount(spread);
                segments += count;
                for (int segment = 0; segment < count; segment++) {
                    lines += x.segmentInfo(spread, segment, 2 + 2 * side);
                }
            }
            Due.is("lines of all segments, side " + side, lines, 600);
            // 600 lines need 75 pages of 8 rows, and each spread but one of carried lines has a segment.
            Due.are("fewer than 75 spreads, more than the segments and one",
                    new int[] {spreads < 75 ? 1 : 0, spreads > segments + 1 ? 1 : 0}, 0, 0);
            Due.is("behind the last spread", x.segmentCount(spreads), INVALID);
        }
    }

    private static void promise15RangeOfSegmentCount() {
        FOUR.range("spread of segmentCount", 0, 3, (x, spread) -> x.segmentCount(spread));
        EMPTY.none("spread of segmentCount without pairs", (x, spread) -> x.segmentCount(spread));
        Due.are("segments", Ask.segmentCounts(FOUR.make()), 1, 2, 1, 0);
    }

    private static void promise16RangesOfSegmentInfo() {
        FOUR.range("spread of segmentInfo", 0, 3, (x, spread) -> x.segmentInfo(spread, 0, 0));
        FOUR.fromZero("segment of segmentInfo", (x, segment) -> x.segmentInfo(1, segment, 0));
        FOUR.range("what of segmentInfo", 0, 7, (x, what) -> x.segmentInfo(1, 1, what));
        EMPTY.none("spread of segmentInfo without pairs", (x, spread) -> x.segmentInfo(spread, 0, 0));
    }

    /** "NOT_FOUND if the spread has not so many segments", but INVALID_ARGUMENT rather than that. */
    private static void promise16NotSoManySegments() {
        FOUR.unchanged("segment 1 of 1", MISSING, x -> x.segmentInfo(0, 1, 0));
        FOUR.unchanged("segment 2 of 2", MISSING, x -> x.segmentInfo(1, 2, 7));
        FOUR.unchanged("segment 0 of none", MISSING, x -> x.segmentInfo(3, 0, 0));
        FOUR.unchanged("the greatest number", MISSING, x -> x.segmentInfo(1, GREATEST_INT, 0));
        FOUR.unchanged("no such property either", INVALID, x -> x.segmentInfo(0, 1, 8));
        FOUR.unchanged("no such spread either", INVALID, x -> x.segmentInfo(4, 1, 0));
        Due.are("the last segment of the second spread", Ask.segment(FOUR.make(), 1, 1), 1, 0, 3, 0, 4, 5, 4, 0);
    }

    /** "7: 1 if the pair goes on in the next spread, else 0" */
    private static void promise16GoesOn() {
        BilingualSetter x = withLines(8, 0, 20, 4);
        Due.are("a first, a middle and a last part, and a whole pair",
                new int[] {x.segmentInfo(0, 0, 7), x.segmentInfo(1, 0, 7), x.segmentInfo(2, 0, 7), x.segmentInfo(2, 1, 7)}, 1,
                        1, 0, 0);
        x = withNote(8, 6, LEFT, 2);
        Due.is("a pair of which a note's line alone goes on", x.segmentInfo(0, 0, 7), 0);
    }

    private static void promise17RangesOfPageInfo() {
        FOUR.range("spread of pageInfo", 0, 3, (x, spread) -> x.pageInfo(spread, 0, 0));
        FOUR.range("side of pageInfo", 0, 1, (x, side) -> x.pageInfo(3, side, 0));
        FOUR.range("what of pageInfo", 0, 5, (x, what) -> x.pageInfo(2, 1, what));
        EMPTY.none("spread of pageInfo without pairs", (x, spread) -> x.pageInfo(spread, 0, 0));
    }

    /** "5: the number of notes that belong to its lines": those of the last line of a part, not of the first one behind it. */
    private static void promise17NotesOfItsLines() {
        BilingualSetter x = withLines(20, 1, 26);
        x.addNote(0, LEFT, 15, 1);
        x.addNote(0, LEFT, 16, 1);
        x.addNote(0, LEFT, 17, 1);
        // 16 + 1 + 1 rows; 17 + 1 + 2 rows are all; the note of line 17 is too much.
        Due.are("first page", Ask.page(x, 0, LEFT), 17, 3, 0, 0, 0, 2);
        Due.are("second page", Ask.page(x, 1, LEFT), 9, 2, 9, 0, 0, 1);
        Due.are("the other side", new int[] {x.pageInfo(0, RIGHT, 5), x.pageInfo(1, RIGHT, 5)}, 0, 0);
    }

    private static void promise18RangeOfIsOverfull() {
        FOUR.range("spread of isOverfull", 0, 3, (x, spread) -> x.isOverfull(spread));
        EMPTY.none("spread of isOverfull without pairs", (x, spread) -> x.isOverfull(spread));
        BilingualSetter x = withNote(8, 9, LEFT, 10);
        Due.are("an overfull one, and one of carried lines", Ask.overfull(x), 1, 0);
    }

    // ---- the promises 19 to 27

    private static void promise19RangesOfSpreadOf() {
        FOUR.range("pair of spreadOf", 0, 2, (x, pair) -> x.spreadOf(pair, 0, 0));
        FOUR.range("side of spreadOf", 0, 1, (x, side) -> x.spreadOf(0, side, 0));
        FOUR.range("left line of spreadOf", 0, 11, (x, line) -> x.spreadOf(0, 0, line));
        FOUR.range("right line of spreadOf", 0, 9, (x, line) -> x.spreadOf(0, 1, line));
        EMPTY.none("pair of spreadOf without pairs", (x, pair) -> x.spreadOf(pair, 0, 0));
    }

    private static void promise19LinesBesideASplit() {
        BilingualSetter x = FOUR.make();
        Due.are("left lines 0, 7, 8, 11", new int[] {x.spreadOf(0, 0, 0), x.spreadOf(0, 0, 7), x.spreadOf(0, 0, 8),
                x.spreadOf(0, 0, 11)},
                0, 0, 1, 1);
        Due.are("right lines 0, 6, 7, 9", new int[] {x.spreadOf(0, 1, 0), x.spreadOf(0, 1, 6), x.spreadOf(0, 1, 7),
                x.spreadOf(0, 1, 9)},
                0, 0, 1, 1);
        Due.are("the pairs behind", new int[] {x.spreadOf(1, 0, 0), x.spreadOf(1, 1, 3), x.spreadOf(2, 0, 0), x.spreadOf(2, 1,
                4)}, 1, 1, 2, 2);
    }

    private static void promise20RangesOfRowOf() {
        FOUR.range("pair of rowOf", 0, 2, (x, pair) -> x.rowOf(pair, 0, 0));
        FOUR.range("side of rowOf", 0, 1, (x, side) -> x.rowOf(0, side, 0));
        FOUR.range("left line of rowOf", 0, 11, (x, line) -> x.rowOf(0, 0, line));
        FOUR.range("right line of rowOf", 0, 9, (x, line) -> x.rowOf(0, 1, line));
        EMPTY.none("pair of rowOf without pairs", (x, pair) -> x.rowOf(pair, 0, 0));
    }

    private static void promise20LinesBesideASplit() {
        BilingualSetter x = FOUR.make();
        Due.are("left lines 0, 7, 8, 11", new int[] {x.rowOf(0, 0, 0), x.rowOf(0, 0, 7), x.rowOf(0, 0, 8), x.rowOf(0, 0, 11)},
                0, 7, 0, 3);
        Due.are("right lines 0, 6, 7, 9", new int[] {x.rowOf(0, 1, 0), x.rowOf(0, 1, 6), x.rowOf(0, 1, 7), x.rowOf(0, 1, 9)},
                0, 6, 0, 2);
        Due.are("the pairs behind", new int[] {x.rowOf(1, 0, 0), x.rowOf(1, 1, 0), x.rowOf(1, 1, 3), x.rowOf(2, 1, 4)}, 5, 4,
                7, 4);
        x = withLines(8, 0, 30);
        x.setFlag(0, 0, 1);
        Due.is("a row behind the height", x.rowOf(0, 1, 29), 29);
    }

    private static void promise21RangesOfShown() {
        FOUR.range("spread of shown", 0, 3, (x, spread) -> x.shown(spread, 0, 0));
        FOUR.range("side of shown", 0, 1, (x, side) -> x.shown(3, side, 7));
        FOUR.range("row of shown", 0, 99, (x, row) -> x.shown(2, 1, row));
        EMPTY.none("spread of shown without pairs", (x, spread) -> x.shown(spread, 0, 0));
        BilingualSetter x = FOUR.make();
        Due.are("left rows of spread 1", Ask.shown(x, 1, LEFT, 9), 10008, 10009, 10010, 10011, 0, 10100, 10101, 10102, 0);
        Due.are("rows behind the height", new int[] {x.shown(1, LEFT, 8), x.shown(1, LEFT, 99)}, 0, 0);
    }

    /** "10000 + 100 * pair + line", "20000 + 100 * note + line": pair 19, line 29, note 39, line 9. */
    private static void promise21GreatestNumbers() {
        BilingualSetter x = withLines(60, 0, 1, 1, 1, 1, 1, 1, 1, 1, 1, 1, 1, 1, 1, 1, 1, 1, 1, 1, 1, 30);
        Due.are("pair 19", new int[] {x.shown(0, 0, 18), x.shown(0, 0, 19), x.shown(0, 0, 48), x.shown(0, 0, 49)}, 11800,
                11900, 11929, 0);
        x = withLines(60, 0, 1);
        for (int note = 0; note < 39; note++) {
            x.addNote(0, RIGHT, 0, 1);
        }
        x.addNote(0, RIGHT, 0, 10);
        // 1 + 39 + 10 note rows from row 10 on.
        Due.are("note 39", new int[] {x.shown(0, 1, 9), x.shown(0, 1, 10), x.shown(0, 1, 11), x.shown(0, 1, 50), x.shown(0, 1,
                59), x.shown(0, 1, 60)},
                0, RULE, 20000, 23900, 23909, 0);
    }

    /** "row: 0 to 99" */
    private static void promise21Row99() {
        BilingualSetter x = withLines(8, 0, 1);
        for (int note = 0; note < 40; note++) {
            x.addNote(0, LEFT, 0, 10);
        }
        // The text has row 0, the rule row 1, and the notes 397 rows from row 2 on.
        Due.are("rows 98 to 101", new int[] {x.shown(0, LEFT, 98), x.shown(0, LEFT, 99), x.shown(0, LEFT, 100), x.shown(0,
                LEFT, 101)},
                20906, 20907, INVALID, INVALID);
    }

    /** "the lines of a note are numbered from 0": in the next spread they go on. */
    private static void promise21LinesOfACarriedNote() {
        BilingualSetter x = withNote(8, 3, LEFT, 7);
        x.insert(1, 1, 1);
        x.setFlag(1, 1, 1);
        x.addNote(1, LEFT, 0, 1);
        Due.are("the page", Ask.shown(x, 0, LEFT, 9), 10000, 10001, 10002, RULE, 20000, 20001, 20002, 20003, 0);
        Due.are("the next page", Ask.shown(x, 1, LEFT, 9), 10100, 0, 0, RULE, 20004, 20005, 20006, 20100, 0);
    }

    private static void promise22CostOfNoneAndOne() {
        Due.is("no spreads", new BilingualSetter().cost(), 0);
        Due.is("one spread", withLines(60, 0, 1).cost(), 0);
        FOUR.unchanged("cost", 1 + 9, x -> x.cost());
        BilingualSetter x = withLines(60, 0, 1, 1, 1, 1, 1, 1, 1, 1, 1, 1, 1, 1, 1, 1, 1, 1, 1, 1, 1, 1);
        for (int pair = 0; pair < 20; pair++) {
            x.setFlag(pair, 1, 1);
        }
        Due.is("the greatest one: 19 spreads with 59 blank rows on both pages", x.cost(), 19 * 2 * 59 * 59);
    }

    /** "Returns the number of pairs that stand on more than one spread." */
    private static void promise27MoreThanOneSpread() {
        BilingualSetter x = withLines(8, 0, 8);
        Due.are("none, and one on one spread", new int[] {new BilingualSetter().splitPairs(), x.splitPairs()}, 0, 0);
        x.setLines(0, LEFT, 9);
        Due.are("on two spreads", new int[] {x.splitPairs(), x.spreadCount()}, 1, 2);
        x.setLines(0, LEFT, 30);
        Due.are("on four spreads", new int[] {x.splitPairs(), x.spreadCount()}, 1, 4);
        x.setFlag(0, 0, 1);
        Due.are("overfull", new int[] {x.splitPairs(), x.spreadCount()}, 0, 1);
        x = withNote(8, 6, LEFT, 2);
        Due.are("a note's line alone stands on the next spread", new int[] {x.splitPairs(), x.spreadCount()}, 0, 2);
        x = withLines(8, 0, 9, 9, 9, 9, 9, 9, 9, 9, 9, 9, 9, 9, 9, 9, 9, 9, 9, 9, 9, 9);
        for (int pair = 0; pair < 20; pair++) {
            x.setFlag(pair, 1, 1);
        }
        Due.is("all of 20", x.splitPairs(), 20);
        FOUR.unchanged("splitPairs", 1, y -> y.splitPairs());
    }
}
