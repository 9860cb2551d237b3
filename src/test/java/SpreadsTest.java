/** The promises 14 to 22 and 27: the spreads and what is asked of them, worked out by hand. */
final class SpreadsTest {
    private static final int INVALID = -1;
    private static final int MISSING = -4;
    private static final int FAR = Integer.MAX_VALUE;
    private static final int RULE = 30000;

    private SpreadsTest() {
    }

    public static void main(String[] args) {
        wholePairsAndGap();
        alignedStarts();
        breakBefore();
        splitByProportion();
        splitRoundsHalvesUp();
        splitKeepsLeast();
        splitBehindAnotherSegment();
        splitTriesShorterParts();
        keptPairs();
        overfullSpread();
        overfullSpreadCarriesTheMost();
        carriedNote();
        carriedNoteTakesRoomOfTheNextSpread();
        leastIsCarried();
        onlyTheLastNoteIsCarried();
        onlyItsOwnNotesAreCarried();
        rowsOfTheRule();
        spreadsFollowChanges();
        promise14();
        promise15And16Errors();
        promise17And18Errors();
        promise19And20();
        promise21();
        promise22();
        promise27();
        Due.end("SpreadsTest");
    }

    private static BilingualSetter withHeight(int height) {
        BilingualSetter x = new BilingualSetter();
        x.set(0, height);
        return x;
    }

    private static void wholePairsAndGap() {
        BilingualSetter x = new BilingualSetter();
        x.insert(0, 2, 4);
        x.insert(1, 3, 1);
        x.set(1, 2);
        Due.are("segments", Ask.segmentCounts(x), 2);
        Due.are("segment 0", Ask.segment(x, 0, 0), 0, 0, 2, 0, 4, 0, 0, 0);
        Due.are("segment 1", Ask.segment(x, 0, 1), 1, 0, 3, 0, 1, 4, 6, 0);
        Due.are("left page", Ask.page(x, 0, 0), 7, 0, 13, 0, 0, 0);
        Due.are("right page", Ask.page(x, 0, 1), 7, 0, 13, 0, 0, 0);
        x.set(0, 8);
        x.setLines(1, 0, 4);
        Due.are("8 of 8 rows", Ask.segmentCounts(x), 2);
        x.setLines(1, 0, 5);
        x.setFlag(1, 0, 1);
        Due.are("9 of 8 rows on the left", Ask.segmentCounts(x), 1, 1);
        x.setLines(1, 0, 1);
        x.setLines(1, 1, 3);
        Due.are("9 of 8 rows on the right", Ask.segmentCounts(x), 1, 1);
        x.set(1, 0);
        Due.are("no gap", Ask.segmentCounts(x), 2);
    }

    private static void alignedStarts() {
        BilingualSetter x = new BilingualSetter();
        x.insert(0, 2, 4);
        x.insert(1, 3, 1);
        x.insert(2, 1, 1);
        x.set(5, 1);
        Due.are("segment 1", Ask.segment(x, 0, 1), 1, 0, 3, 0, 1, 5, 5, 0);
        Due.are("segment 2", Ask.segment(x, 0, 2), 2, 0, 1, 0, 1, 9, 9, 0);
        x.remove(2);
        Due.are("left page", Ask.page(x, 0, 0), 8, 0, 12, 0, 0, 0);
        Due.are("right page", Ask.page(x, 0, 1), 6, 0, 14, 0, 0, 0);
    }

    private static void breakBefore() {
        BilingualSetter x = new BilingualSetter();
        x.insert(0, 1, 1);
        x.insert(1, 1, 1);
        x.insert(2, 1, 1);
        x.setFlag(0, 1, 1);
        Due.are("a break before the first pair", Ask.segmentCounts(x), 3);
        x.setFlag(2, 1, 1);
        Due.are("a break before the last pair", Ask.segmentCounts(x), 2, 1);
        x.setLines(1, 0, 30);
        x.setFlag(1, 1, 1);
        x.setLines(1, 1, 30);
        Due.are("a split pair with a break", Ask.segmentCounts(x), 1, 1, 1, 1);
        Due.are("its rest", Ask.segment(x, 2, 0), 1, 20, 10, 20, 10, 0, 0, 0);
    }

    private static void splitByProportion() {
        BilingualSetter x = withHeight(8);
        x.insert(0, 10, 5);
        // x = 8 and 7 give y = 4 and leave 1 right line; x = 6 gives 3 and leaves 2.
        Due.are("segments", Ask.segmentCounts(x), 1, 1);
        Due.are("first part", Ask.segment(x, 0, 0), 0, 0, 6, 0, 3, 0, 0, 1);
        Due.are("second part", Ask.segment(x, 1, 0), 0, 6, 4, 3, 2, 0, 0, 0);
        x.setLines(0, 0, 30);
        x.setLines(0, 1, 20);
        // 30:20 gives 8:5, then 22:15 gives 8:5, then 14:10 gives 8:6, and 6:4 is left.
        Due.are("four parts", Ask.segmentCounts(x), 1, 1, 1, 1);
        Due.are("part 0", Ask.segment(x, 0, 0), 0, 0, 8, 0, 5, 0, 0, 1);
        Due.are("part 1", Ask.segment(x, 1, 0), 0, 8, 8, 5, 5, 0, 0, 1);
        Due.are("part 2", Ask.segment(x, 2, 0), 0, 16, 8, 10, 6, 0, 0, 1);
        Due.are("part 3", Ask.segment(x, 3, 0), 0, 24, 6, 16, 4, 0, 0, 0);
    }

    private static void splitRoundsHalvesUp() {
        BilingualSetter x = withHeight(8);
        x.set(3, 1);
        x.insert(0, 4, 30);
        // y = (60 + 4) / 8 = 8 for 7.5, and then (44 + 3) / 6 = 7 for 7.33.
        Due.are("part 0", Ask.segment(x, 0, 0), 0, 0, 1, 0, 8, 0, 0, 1);
        Due.are("part 1", Ask.segment(x, 1, 0), 0, 1, 1, 8, 7, 0, 0, 1);
    }

    private static void splitKeepsLeast() {
        BilingualSetter x = withHeight(8);
        x.insert(0, 9, 9);
        x.set(3, 1);
        Due.are("least 1", Ask.segment(x, 0, 0), 0, 0, 8, 0, 8, 0, 0, 1);
        x.set(3, 2);
        Due.are("least 2", Ask.segment(x, 0, 0), 0, 0, 7, 0, 7, 0, 0, 1);
        x.set(3, 4);
        Due.are("least 4", Ask.segment(x, 0, 0), 0, 0, 5, 0, 5, 0, 0, 1);
        x.setLines(0, 1, 7);
        Due.are("7 right lines are too few", Ask.segmentCounts(x), 1);
        Due.is("so it is overfull", x.isOverfull(0), 1);
        x.setLines(0, 1, 8);
        // x = 5 gives y = 4, which leaves 4 and 4.
        Due.are("8 right lines are enough", Ask.segment(x, 0, 0), 0, 0, 5, 0, 4, 0, 0, 1);
        x.setLines(0, 0, 7);
        x.setLines(0, 1, 9);
        Due.are("7 left lines are too few", Ask.segmentCounts(x), 1);
    }

    private static void splitBehindAnotherSegment() {
        BilingualSetter x = withHeight(8);
        x.insert(0, 4, 4);
        x.insert(1, 6, 6);
        x.insert(2, 2, 2);
        Due.are("segments", Ask.segmentCounts(x), 2, 2);
        Due.are("behind the first pair", Ask.segment(x, 0, 1), 1, 0, 3, 0, 3, 5, 5, 1);
        Due.are("the rest", Ask.segment(x, 1, 0), 1, 3, 3, 3, 3, 0, 0, 0);
        Due.are("goes on behind the rest", Ask.segment(x, 1, 1), 2, 0, 2, 0, 2, 4, 4, 0);
        x.setLines(0, 0, 6);
        Due.are("one row is too little for least 2", Ask.segmentCounts(x), 1, 1, 1);
        x.set(3, 1);
        Due.are("and enough for least 1", Ask.segment(x, 0, 1), 1, 0, 1, 0, 1, 7, 5, 1);
    }

    private static void splitTriesShorterParts() {
        BilingualSetter x = withHeight(12);
        x.insert(0, 20, 20);
        x.addNote(0, 1, 8, 7);
        // Behind 9 lines or more the note takes 1 + 7 - 3 rows at the least: 9 + 5 are too many.
        Due.are("the part ends before the note", Ask.segment(x, 0, 0), 0, 0, 8, 0, 8, 0, 0, 1);
        Due.are("the part with the note", Ask.segment(x, 1, 0), 0, 8, 7, 8, 7, 0, 0, 1);
        Due.are("its page", Ask.page(x, 1, 1), 7, 5, 0, 0, 3, 1);
        Due.are("the last page", Ask.page(x, 2, 1), 5, 4, 3, 3, 0, 0);
    }

    private static void keptPairs() {
        BilingualSetter x = withHeight(8);
        x.insert(0, 4, 4);
        x.insert(1, 6, 6);
        x.setFlag(1, 0, 1);
        Due.are("a kept pair is not split", Ask.segmentCounts(x), 1, 1);
        Due.are("it stands on the next spread", Ask.segment(x, 1, 0), 1, 0, 6, 0, 6, 0, 0, 0);
        Due.is("and is not overfull", x.isOverfull(1), 0);
    }

    private static void overfullSpread() {
        BilingualSetter x = withHeight(8);
        x.insert(0, 9, 2);
        x.insert(1, 1, 1);
        x.setFlag(0, 0, 1);
        Due.are("an overfull spread ends", Ask.segmentCounts(x), 1, 1);
        Due.are("overfull", new int[] {x.isOverfull(0), x.isOverfull(1)}, 1, 0);
        Due.are("left page", Ask.page(x, 0, 0), 9, 0, 0, 0, 0, 0);
        Due.are("right page", Ask.page(x, 0, 1), 2, 0, 6, 0, 0, 0);
        x.set(0, 9);
        Due.are("with a row more", Ask.segmentCounts(x), 1, 1);
        Due.is("it is not overfull", x.isOverfull(0), 0);
    }

    private static void overfullSpreadCarriesTheMost() {
        BilingualSetter x = withHeight(8);
        x.insert(0, 9, 3);
        x.setFlag(0, 0, 1);
        x.addNote(0, 0, 8, 10);
        x.addNote(0, 1, 2, 5);
        Due.are("left page", Ask.page(x, 0, 0), 9, 8, 0, 0, 3, 1);
        Due.are("right page", Ask.page(x, 0, 1), 3, 5, 0, 0, 1, 1);
        Due.are("rows behind the page's end", Ask.shown(x, 0, 0, 20), 10000, 10001, 10002, 10003, 10004, 10005, 10006, 10007,
                10008,
                RULE, 20000, 20001, 20002, 20003, 20004, 20005, 20006, 0, 0, 0);
        Due.are("one more spread", Ask.segmentCounts(x), 1, 0);
        Due.are("its left page", Ask.page(x, 1, 0), 0, 4, 4, 3, 0, 0);
        Due.are("its right page", Ask.page(x, 1, 1), 0, 2, 6, 1, 0, 0);
        Due.are("its left rows", Ask.shown(x, 1, 0, 9), 0, 0, 0, 0, RULE, 20007, 20008, 20009, 0);
        Due.are("its right rows", Ask.shown(x, 1, 1, 9), 0, 0, 0, 0, 0, 0, RULE, 20004, 0);
        Due.is("it is not overfull", x.isOverfull(1), 0);
    }

    private static void carriedNote() {
        BilingualSetter x = withHeight(8);
        x.insert(0, 5, 5);
        x.addNote(0, 0, 4, 6);
        // 5 + 1 + 6 - 3 rows are too many; behind 3 lines, the last 2 have room for 5 lines of the note.
        Due.are("segments", Ask.segmentCounts(x), 1, 1, 0);
        Due.are("page 0", Ask.page(x, 0, 0), 3, 0, 5, 0, 0, 0);
        Due.are("page 1", Ask.page(x, 1, 0), 2, 6, 0, 0, 1, 1);
        Due.are("page 2", Ask.page(x, 2, 0), 0, 2, 6, 1, 0, 0);
        Due.are("rows of page 1", Ask.shown(x, 1, 0, 9), 10003, 10004, RULE, 20000, 20001, 20002, 20003, 20004, 0);
        Due.are("rows of page 2", Ask.shown(x, 2, 0, 9), 0, 0, 0, 0, 0, 0, RULE, 20005, 0);
        Due.are("right page 2 is empty", Ask.page(x, 2, 1), 0, 0, 8, 0, 0, 0);
        x.set(4, 0);
        Due.are("without carrying it does not fit", new int[] {x.isOverfull(0), x.isOverfull(1), x.spreadCount()}, 0, 1, 2);
        x.set(4, 1);
        Due.are("one carried line is enough", new int[] {x.isOverfull(1), x.spreadCount()}, 0, 3);
    }

    private static void carriedNoteTakesRoomOfTheNextSpread() {
        BilingualSetter x = withHeight(8);
        x.insert(0, 4, 4);
        x.insert(1, 5, 5);
        x.insert(2, 1, 1);
        x.addNote(0, 1, 0, 6);
        x.addNote(1, 1, 0, 1);
        x.setFlag(1, 0, 1);
        // 4 + 1 + 3 on the first right page, 3 + 1 carried rows on the second: 5 + 5 rows are too many.
        Due.are("right page 0", Ask.page(x, 0, 1), 4, 4, 0, 0, 3, 1);
        Due.are("right page 1", Ask.page(x, 1, 1), 5, 5, 0, 3, 0, 1);
        Due.are("overfull", new int[] {x.isOverfull(0), x.isOverfull(1), x.isOverfull(2)}, 0, 1, 0);
        Due.are("rows of right page 1", Ask.shown(x, 1, 1, 11), 10100, 10101, 10102, 10103, 10104, RULE, 20003, 20004, 20005,
                20100, 0);
        Due.are("segments", Ask.segmentCounts(x), 1, 1, 1);
    }

    private static void leastIsCarried() {
        BilingualSetter x = withHeight(10);
        x.insert(0, 4, 4);
        x.addNote(0, 0, 3, 5);
        Due.are("all stays", Ask.page(x, 0, 0), 4, 6, 0, 0, 0, 1);
        x.set(2, 2);
        Due.are("one line is carried", Ask.page(x, 0, 0), 4, 6, 0, 0, 1, 1);
        x.removeNote(0, 0);
        x.addNote(0, 0, 3, 2);
        x.set(0, 8);
        x.setLines(0, 0, 5);
        Due.are("its first line stays", Ask.page(x, 0, 0), 5, 3, 0, 0, 1, 1);
        x.setLines(0, 0, 6);
        x.setFlag(0, 0, 1);
        Due.are("even if it does not fit", Ask.page(x, 0, 0), 6, 3, 0, 0, 1, 1);
        Due.is("then it is overfull", x.isOverfull(0), 1);
    }

    private static void onlyTheLastNoteIsCarried() {
        BilingualSetter x = withHeight(10);
        x.insert(0, 4, 4);
        x.setFlag(0, 0, 1);
        x.addNote(0, 0, 1, 6);
        x.addNote(0, 0, 2, 1);
        Due.are("the last one has one line", Ask.page(x, 0, 0), 4, 8, 0, 0, 0, 2);
        Due.is("it is overfull", x.isOverfull(0), 1);
        x.removeNote(0, 1);
        x.addNote(0, 0, 1, 4);
        Due.are("the second one of a line is the last one", Ask.page(x, 0, 0), 4, 8, 0, 0, 3, 2);
        Due.is("the carried line", x.shown(1, 0, 9), 20103);
    }

    private static void onlyItsOwnNotesAreCarried() {
        BilingualSetter x = withHeight(8);
        x.set(4, 5);
        x.insert(0, 2, 2);
        x.insert(1, 5, 5);
        x.addNote(0, 0, 1, 10);
        x.setFlag(1, 0, 1);
        Due.are("page 0", Ask.page(x, 0, 0), 2, 6, 0, 0, 5, 1);
        Due.are("what was carried to a page stays there", Ask.page(x, 1, 0), 5, 6, 0, 5, 0, 0);
        Due.are("segments", Ask.segmentCounts(x), 1, 1);
    }

    private static void rowsOfTheRule() {
        BilingualSetter x = withHeight(8);
        x.insert(0, 2, 2);
        x.addNote(0, 0, 0, 1);
        x.addNote(0, 0, 0, 2);
        x.set(2, 2);
        Due.are("two rows", Ask.shown(x, 0, 0, 9), 10000, 10001, 0, RULE, RULE, 20000, 20100, 20101, 0);
        Due.are("no notes, no rule", Ask.shown(x, 0, 1, 9), 10000, 10001, 0, 0, 0, 0, 0, 0, 0);
        x.set(2, 0);
        Due.are("no rule", Ask.shown(x, 0, 0, 9), 10000, 10001, 0, 0, 0, 20000, 20100, 20101, 0);
        Due.is("note rows without a rule", x.pageInfo(0, 0, 1), 3);
    }

    private static void spreadsFollowChanges() {
        BilingualSetter x = withHeight(8);
        x.set(3, 1);
        x.insert(0, 4, 4);
        x.insert(1, 3, 3);
        Due.is("two pairs", x.segmentCount(0), 2);
        x.setLines(1, 0, 4);
        x.setFlag(1, 0, 1);
        Due.is("setLines and setFlag", x.segmentCount(0), 1);
        x.undo();
        Due.is("undo", x.segmentInfo(0, 1, 7), 1);
        x.undo();
        Due.is("undo again", x.segmentInfo(0, 1, 2), 3);
        x.addNote(0, 0, 0, 1);
        Due.is("addNote", x.pageInfo(0, 0, 1), 2);
        x.removeNote(0, 0);
        Due.is("removeNote", x.pageInfo(0, 0, 1), 0);
        x.remove(0);
        Due.is("remove", x.pageInfo(0, 0, 0), 3);
        x.insert(0, 1, 1);
        Due.is("insert", x.pageInfo(0, 0, 0), 5);
        x.set(1, 0);
        Due.is("set", x.pageInfo(0, 0, 0), 4);
        x.leastHeight(1);
        x.overfullWith(60);
        Due.is("a question with another height changes nothing", x.pageInfo(0, 0, 2), 4);
    }

    private static void promise14() {
        BilingualSetter x = new BilingualSetter();
        Due.is("no spreads", x.spreadCount(), 0);
        for (int pair = 0; pair < 20; pair++) {
            x.insert(pair, 30, 30);
        }
        x.set(0, 8);
        x.set(3, 1);
        // 8 8 8 6+1, 8 8 8 5+2, 8 8 8 4+3, 8 8 8 3+4, 8 8 8 2+5, 8 8 8 1+6, 8 8 8: 27 spreads for 7 pairs,
        // twice, and 24 for the first 6 of another 7.
        Due.is("many spreads", x.spreadCount(), 78);
        x.set(0, 60);
        x.set(1, 0);
        Due.is("two pairs a spread", x.spreadCount(), 10);
    }

    private static void promise15And16Errors() {
        BilingualSetter x = new BilingualSetter();
        Due.are("no spread", new int[] {x.segmentCount(0), x.segmentInfo(0, 0, 0), x.segmentInfo(0, 5, 0)},
                INVALID, INVALID, INVALID);
        x.insert(0, 3, 3);
        Due.are("segmentCount", new int[] {x.segmentCount(0), x.segmentCount(1), x.segmentCount(-1), x.segmentCount(FAR)},
                1, INVALID, INVALID, INVALID);
        Due.are("segmentInfo's errors", new int[] {x.segmentInfo(0, 1, 0), x.segmentInfo(0, FAR, 7), x.segmentInfo(0, -1, 0),
            x.segmentInfo(1, 0, 0), x.segmentInfo(-1, 0, 0), x.segmentInfo(0, 0, 8), x.segmentInfo(0, 0, -1),
            x.segmentInfo(0, 1, 8)},
                MISSING, MISSING, INVALID, INVALID, INVALID, INVALID, INVALID, INVALID);
    }

    private static void promise17And18Errors() {
        BilingualSetter x = new BilingualSetter();
        Due.are("no spread", new int[] {x.pageInfo(0, 0, 0), x.isOverfull(0)}, INVALID, INVALID);
        x.insert(0, 3, 3);
        Due.are("pageInfo's errors", new int[] {x.pageInfo(1, 0, 0), x.pageInfo(-1, 0, 0), x.pageInfo(0, 2, 0),
            x.pageInfo(0, -1, 0), x.pageInfo(0, 0, 6), x.pageInfo(0, 0, -1)},
                INVALID, INVALID, INVALID, INVALID, INVALID, INVALID);
        Due.are("isOverfull", new int[] {x.isOverfull(0), x.isOverfull(1), x.isOverfull(-1)}, 0, INVALID, INVALID);
    }

    private static void promise19And20() {
        BilingualSetter x = withHeight(8);
        x.insert(0, 3, 2);
        x.insert(1, 10, 5);
        // 4 rows are left on the left: 4 lines and (40 + 10) / 20 = 2; then 6 and 3.
        Due.are("spreadOf, left", new int[] {x.spreadOf(0, 0, 2), x.spreadOf(1, 0, 0), x.spreadOf(1, 0, 3), x.spreadOf(1, 0, 4),
            x.spreadOf(1, 0, 9)}, 0, 0, 0, 1, 1);
        Due.are("spreadOf, right", new int[] {x.spreadOf(0, 1, 1), x.spreadOf(1, 1, 1), x.spreadOf(1, 1, 2), x.spreadOf(1, 1,
                4)},
                0, 0, 1, 1);
        Due.are("rowOf, left", new int[] {x.rowOf(0, 0, 2), x.rowOf(1, 0, 0), x.rowOf(1, 0, 3), x.rowOf(1, 0, 4), x.rowOf(1, 0,
                9)},
                2, 4, 7, 0, 5);
        x.setLines(0, 0, 4);
        Due.is("rowOf first after a change", x.rowOf(1, 0, 4), 1);
        x.setLines(0, 0, 3);
        Due.are("rowOf, right", new int[] {x.rowOf(0, 1, 1), x.rowOf(1, 1, 0), x.rowOf(1, 1, 1), x.rowOf(1, 1, 2), x.rowOf(1,
                1, 4)},
                1, 3, 4, 0, 2);
        Due.are("spreadOf's errors", new int[] {x.spreadOf(2, 0, 0), x.spreadOf(-1, 0, 0), x.spreadOf(0, 2, 0),
            x.spreadOf(0, -1, 0), x.spreadOf(0, 0, 3), x.spreadOf(0, 1, 2), x.spreadOf(0, 0, -1)},
                INVALID, INVALID, INVALID, INVALID, INVALID, INVALID, INVALID);
        Due.are("rowOf's errors", new int[] {x.rowOf(2, 0, 0), x.rowOf(-1, 0, 0), x.rowOf(0, 2, 0), x.rowOf(0, -1, 0),
            x.rowOf(0, 0, 3), x.rowOf(0, 1, 2), x.rowOf(0, 0, -1)},
                INVALID, INVALID, INVALID, INVALID, INVALID, INVALID, INVALID);
    }

    private static void promise21() {
        BilingualSetter x = withHeight(8);
        x.insert(0, 2, 1);
        x.insert(1, 2, 3);
        x.addNote(1, 1, 0, 1);
        x.addNote(0, 1, 0, 1);
        Due.are("left", Ask.shown(x, 0, 0, 9), 10000, 10001, 0, 10100, 10101, 0, 0, 0, 0);
        Due.are("right", Ask.shown(x, 0, 1, 9), 10000, 0, 10100, 10101, 10102, RULE, 20000, 20100, 0);
        Due.are("shown's errors", new int[] {x.shown(0, 0, 99), x.shown(0, 0, 100), x.shown(0, 0, -1), x.shown(1, 0, 0),
            x.shown(-1, 0, 0), x.shown(0, 2, 0), x.shown(0, -1, 0)},
                0, INVALID, INVALID, INVALID, INVALID, INVALID, INVALID);
        for (int note = 0; note < 9; note++) {
            x.addNote(1, 0, 1, 10);
        }
        x.insert(2, 1, 1);
        x.setFlag(1, 0, 1);
        x.setFlag(1, 1, 1);
        Due.are("many rows", new int[] {x.shown(1, 0, 2), x.shown(1, 0, 3), x.shown(1, 0, 89), x.shown(1, 0, 90), x.shown(2, 0,
                7)},
                RULE, 20000, 20806, 0, 20809);
    }

    private static void promise22() {
        BilingualSetter x = withHeight(8);
        x.insert(0, 5, 4);
        Due.is("the last spread costs nothing", x.cost(), 0);
        x.insert(1, 6, 8);
        x.setFlag(1, 0, 1);
        Due.is("3 and 4 blank rows", x.cost(), 25);
        x.insert(2, 1, 1);
        Due.is("and 2 and 0", x.cost(), 29);
        x.addNote(0, 1, 0, 2);
        Due.is("3 and 1, 2 and 0", x.cost(), 14);
        x.setLines(1, 0, 9);
        Due.is("an overfull page has none", x.cost(), 10);
        x.remove(2);
        x.remove(1);
        x.setLines(0, 0, 6);
        x.setFlag(0, 0, 1);
        x.addNote(0, 0, 0, 2);
        // 6 + 2 rows with one line carried, 4 + 3 rows; the spread of the carried line is the last one.
        Due.are("a spread of carried lines", new int[] {x.spreadCount(), x.cost()}, 2, 1);
    }

    private static void promise27() {
        BilingualSetter x = withHeight(8);
        Due.is("no pairs", x.splitPairs(), 0);
        x.insert(0, 30, 30);
        Due.is("a pair in four parts is one", x.splitPairs(), 1);
        x.insert(1, 8, 8);
        x.insert(2, 30, 30);
        x.setFlag(2, 0, 1);
        Due.is("a whole one and a kept one are none", x.splitPairs(), 1);
        x.setFlag(2, 0, 0);
        x.setFlag(1, 1, 1);
        Due.is("two", x.splitPairs(), 2);
        x.set(0, 60);
        Due.is("none in 60 rows", x.splitPairs(), 0);
    }
}
