/**
 * The boundary cases of the document's part 'Changes and errors' and of promise 9, and the number of
 * calls. Each method stands for one sentence, which is told above it.
 */
final class ChangeEdgesTest {
    private static final int INVALID = -1;
    private static final int IMPOSSIBLE = -2;
    private static final int LIMIT = -3;
    private static final int MISSING = -4;

    /** Three changes: a pair of 10 lines, a note of its last left line, and a break before it. */
    private static final Twins THREE = new Twins(
            x -> x.insert(0, 10, 10), x -> x.addNote(0, 0, 9, 2), x -> x.setFlag(0, 1, 1));
    /** A full history: ten changes on end. */
    private static final Twins TEN = new Twins(
            x -> x.set(0, 8), x -> x.insert(0, 10, 12), x -> x.insert(1, 3, 3), x -> x.addNote(0, 0, 9, 2),
            x -> x.addNote(1, 1, 2, 4), x -> x.addNote(0, 0, 9, 3), x -> x.setFlag(1, 1, 1), x -> x.setFlag(0, 0, 1),
            x -> x.setFlag(0, 0, 0), x -> x.setLines(1, 0, 5));
    private static final Twins EMPTY = new Twins();

    private ChangeEdgesTest() {
    }

    public static void main(String[] args) {
        emptyHistory();
        eachChangeRecordsOneState();
        changesByWhichNothingBecomesDifferent();
        sixStatesAreKept();
        theSeventhDropsTheOldest();
        manyChanges();
        undoRemovesTheLatestState();
        undoRestoresAllThatAChangeChanged();
        undoIsNoChange();
        refusedCallsAreNoChanges();
        questionsAreNoChanges();
        invalidArgumentRatherThanNotPossible();
        invalidArgumentRatherThanLimitReached();
        invalidArgumentRatherThanNotFound();
        theLastOf512Calls();
        Due.end("ChangeEdgesTest");
    }

    private static int[] undos(BilingualSetter x, int count) {
        int[] got = new int[count];
        for (int n = 0; n < count; n++) {
            got[n] = x.undo();
        }
        return got;
    }

    /** "NOT_POSSIBLE if it is empty" */
    private static void emptyHistory() {
        EMPTY.unchanged("undo of a new object", IMPOSSIBLE, x -> x.undo());
        BilingualSetter x = new BilingualSetter();
        x.insert(0, 5, 5);
        Due.are("one state and none", undos(x, 3), 0, IMPOSSIBLE, IMPOSSIBLE);
        Due.are("a change behind an empty history", new int[] {x.insert(0, 6, 6), x.pairInfo(0, 0)}, 1, 6);
        Due.are("one state and none again", undos(x, 2), 0, IMPOSSIBLE);
        Twins undone = new Twins(y -> y.insert(0, 5, 5), y -> y.undo());
        undone.unchanged("undo of an empty history", IMPOSSIBLE, y -> y.undo());
    }

    /** "each change records the state before it": each method that changes does, and one state alone. */
    private static void eachChangeRecordsOneState() {
        Twins.Call[] changes = {x -> x.insert(1, 5, 5), x -> x.remove(0), x -> x.setLines(0, 1, 7), x -> x.setFlag(0, 0, 1),
            x -> x.setFlag(0, 1, 0), x -> x.addNote(0, 1, 0, 10), x -> x.removeNote(0, 0), x -> x.set(0, 60), x -> x.set(1, 3),
            x -> x.set(2, 0), x -> x.set(3, 4), x -> x.set(4, 5), x -> x.set(5, 1)};
        for (int n = 0; n < changes.length; n++) {
            THREE.undone("change " + n, 3, changes[n]);
        }
    }

    /** "are changes, if they return no error (also if nothing becomes different)" */
    private static void changesByWhichNothingBecomesDifferent() {
        Twins.Call[] changes = {x -> x.setLines(0, 0, 10), x -> x.setLines(0, 1, 10), x -> x.setFlag(0, 0, 0),
                x -> x.setFlag(0, 1, 1),
            x -> x.set(0, 20), x -> x.set(1, 1), x -> x.set(2, 1), x -> x.set(3, 2), x -> x.set(4, 3), x -> x.set(5, 0)};
        int[] previous = {10, 10, 0, 1, 20, 1, 1, 2, 3, 0};
        for (int n = 0; n < changes.length; n++) {
            Due.is("what stood before, " + n, changes[n].on(THREE.make()), previous[n]);
            THREE.undone("the same again, " + n, 3, changes[n]);
        }
        BilingualSetter x = new BilingualSetter();
        for (int n = 0; n < 6; n++) {
            x.set(0, 20);
        }
        Due.are("six of them on a new object", undos(x, 7), 5, 4, 3, 2, 1, 0, IMPOSSIBLE);
    }

    /** "A history of at most 6 states is kept" */
    private static void sixStatesAreKept() {
        for (int changes = 0; changes <= 6; changes++) {
            BilingualSetter x = new BilingualSetter();
            for (int pair = 0; pair < changes; pair++) {
                x.insert(pair, 1 + pair, 1);
            }
            for (int left = changes - 1; left >= 0; left--) {
                Due.are("undo with " + left + " states left of " + changes, new int[] {x.undo(), x.pairCount()}, left, left);
            }
            Due.is("undo behind " + changes, x.undo(), IMPOSSIBLE);
            Due.is("as new", x.pairCount(), 0);
        }
    }

    /** "and if there are 7 then, the oldest one is dropped" */
    private static void theSeventhDropsTheOldest() {
        BilingualSetter x = new BilingualSetter();
        for (int pair = 0; pair < 7; pair++) {
            x.insert(pair, 1 + pair, 1);
        }
        Due.are("six of seven changes", undos(x, 7), 5, 4, 3, 2, 1, 0, IMPOSSIBLE);
        Due.are("the state behind the first change stays", new int[] {x.pairCount(), x.pairInfo(0, 0)}, 1, 1);
        x = TEN.make();
        Due.are("six of ten changes", undos(x, 7), 5, 4, 3, 2, 1, 0, IMPOSSIBLE);
        Due.are("the state behind the fourth change stays",
                new int[] {x.pairCount(), x.noteCount(0), x.noteCount(1), x.pairInfo(1, 0), x.pairInfo(1, 3), x.set(0, 9)}, 2,
                        1, 0, 3, 0, 8);
    }

    private static void manyChanges() {
        BilingualSetter x = new BilingualSetter();
        x.insert(0, 1, 1);
        for (int n = 0; n < 100; n++) {
            x.setLines(0, n % 2, 1 + n % 30);
        }
        // The changes 94 to 99 are undone: the last ones before them are 92 (left) and 93 (right).
        Due.are("six of 101 changes", undos(x, 7), 5, 4, 3, 2, 1, 0, IMPOSSIBLE);
        Due.are("lines", Ask.pair(x, 0), 1 + 92 % 30, 1 + 93 % 30, 0, 0);
    }

    /** "undo restores the latest one and removes it": changes and undos in turn. */
    private static void undoRemovesTheLatestState() {
        BilingualSetter x = new BilingualSetter();
        x.insert(0, 1, 1);
        for (int n = 0; n < 20; n++) {
            Due.are("change and undo", new int[] {x.setLines(0, 0, 2 + n), x.undo(), x.pairInfo(0, 0)}, 1, 1, 1);
        }
        for (int lines = 2; lines <= 9; lines++) {
            x.setLines(0, 0, lines);
        }
        Due.are("three of six", new int[] {x.undo(), x.undo(), x.undo(), x.pairInfo(0, 0)}, 5, 4, 3, 6);
        x.setLines(0, 0, 20);
        x.setLines(0, 0, 21);
        x.setLines(0, 0, 22);
        Due.are("three and three are six", undos(x, 3), 5, 4, 3);
        Due.is("back where they began", x.pairInfo(0, 0), 6);
        for (int lines = 23; lines <= 26; lines++) {
            x.setLines(0, 0, lines);
        }
        Due.are("three and four are six too", undos(x, 4), 5, 4, 3, 2);
        Due.are("the oldest one is the fifth", new int[] {x.pairInfo(0, 0), x.undo(), x.undo(), x.undo(), x.pairInfo(0, 0)},
                6, 1, 0, IMPOSSIBLE, 4);
    }

    /** Pairs, flags, notes with their order, settings, and with them the spreads. */
    private static void undoRestoresAllThatAChangeChanged() {
        BilingualSetter x = TEN.make();
        Due.are("remove with three notes", new int[] {x.remove(0), x.noteCount(0), x.undo(), x.noteCount(0)}, 1, 0, 5, 2);
        Due.are("the order of the notes", Ask.lengths(x, 0), 2, 3);
        Due.are("the pair", Ask.pair(x, 0), 10, 12, 0, 0);
        Due.are("spreads before", Ask.segmentCounts(x), 1, 1, 1);
        Due.are("insert with a break, and undo", new int[] {x.insert(0, 8, 8), x.spreadCount(), x.undo(), x.spreadCount()}, 3,
                4, 5, 3);
        Due.are("height, and undo", new int[] {x.set(0, 60), x.spreadCount(), x.undo(), x.spreadCount()}, 8, 2, 5, 3);
        Due.are("the lines of pair 1", new int[] {x.undo(), x.pairInfo(1, 0)}, 4, 3);
        Due.are("kept, and undo", new int[] {x.undo(), x.pairInfo(0, 2), x.undo(), x.pairInfo(0, 2)}, 3, 1, 2, 0);
        Due.are("the break and the second note", new int[] {x.undo(), x.pairInfo(1, 3), x.undo(), x.noteCount(0), x.noteInfo(0,
                0, 2)},
                1, 0, 0, 1, 2);
    }

    /** undo records nothing: behind it comes the state before, not the one that was left. */
    private static void undoIsNoChange() {
        BilingualSetter x = new BilingualSetter();
        x.insert(0, 1, 1);
        x.setLines(0, 0, 2);
        x.setLines(0, 0, 3);
        Due.are("on and on back", new int[] {x.undo(), x.pairInfo(0, 0), x.undo(), x.pairInfo(0, 0), x.undo(), x.pairCount(),
                x.undo()},
                2, 2, 1, 1, 0, 0, IMPOSSIBLE);
    }

    /** "A call that returns an error changes nothing": with a full history, none of its states is dropped. */
    private static void refusedCallsAreNoChanges() {
        TEN.unchanged("insert", INVALID, x -> x.insert(3, 5, 5));
        TEN.unchanged("remove", INVALID, x -> x.remove(2));
        TEN.unchanged("setLines", INVALID, x -> x.setLines(0, 0, 31));
        TEN.unchanged("setLines of a line with a note", IMPOSSIBLE, x -> x.setLines(0, 0, 9));
        TEN.unchanged("setFlag", INVALID, x -> x.setFlag(0, 2, 1));
        TEN.unchanged("addNote", INVALID, x -> x.addNote(0, 0, 10, 1));
        TEN.unchanged("removeNote", INVALID, x -> x.removeNote(0, -1));
        TEN.unchanged("removeNote of none", MISSING, x -> x.removeNote(0, 2));
        TEN.unchanged("set", INVALID, x -> x.set(0, 7));
        BilingualSetter x = TEN.make();
        for (int n = 0; n < 10; n++) {
            x.set(0, 61);
            x.removeNote(1, 1);
        }
        Due.are("twenty of them", undos(x, 7), 5, 4, 3, 2, 1, 0, IMPOSSIBLE);
    }

    private static void questionsAreNoChanges() {
        TEN.unchanged("pairCount", 2, x -> x.pairCount());
        TEN.unchanged("pairInfo", 12, x -> x.pairInfo(0, 1));
        TEN.unchanged("noteCount", 2, x -> x.noteCount(0));
        TEN.unchanged("noteInfo", 3, x -> x.noteInfo(0, 1, 2));
        TEN.unchanged("spreadCount", 3, x -> x.spreadCount());
        TEN.unchanged("segmentCount", 1, x -> x.segmentCount(2));
        TEN.unchanged("segmentInfo", 1, x -> x.segmentInfo(0, 0, 7));
        TEN.unchanged("pageInfo", 5, x -> x.pageInfo(2, 0, 0));
        TEN.unchanged("isOverfull", 0, x -> x.isOverfull(0));
        TEN.unchanged("spreadOf", 2, x -> x.spreadOf(1, 1, 2));
        TEN.unchanged("rowOf", 2, x -> x.rowOf(1, 1, 2));
        TEN.unchanged("shown", 10000, x -> x.shown(0, 0, 0));
        TEN.unchanged("bestCost", MISSING, x -> x.bestCost());
        TEN.unchanged("bestBreak", MISSING, x -> x.bestBreak(0));
        // 10 lines, the rule, and 2 + 3 note lines of which 2 are carried.
        TEN.unchanged("leastHeight", 14, x -> x.leastHeight(2));
        TEN.unchanged("overfullWith", 0, x -> x.overfullWith(60));
        TEN.unchanged("splitPairs", 1, x -> x.splitPairs());
    }

    /** "INVALID_ARGUMENT is returned rather than NOT_POSSIBLE" */
    private static void invalidArgumentRatherThanNotPossible() {
        BilingualSetter x = THREE.make();
        Due.are("setLines", new int[] {x.setLines(0, 0, 9), x.setLines(0, 0, 1), x.setLines(0, 0, 0), x.setLines(0, 0, -1),
                x.setLines(1, 0, 9)},
                IMPOSSIBLE, IMPOSSIBLE, INVALID, INVALID, INVALID);
    }

    /** "NOT_POSSIBLE rather than LIMIT_REACHED", where no call answers both; INVALID_ARGUMENT goes before both. */
    private static void invalidArgumentRatherThanLimitReached() {
        BilingualSetter x = new BilingualSetter();
        for (int pair = 0; pair < 20; pair++) {
            x.insert(pair, 1, 1);
            x.addNote(pair, 0, 0, 1);
            x.addNote(pair, 1, 0, 1);
        }
        Due.are("insert", new int[] {x.insert(20, 1, 1), x.insert(21, 1, 1), x.insert(20, 0, 1), x.insert(20, 1, 31)},
                LIMIT, INVALID, INVALID, INVALID);
        Due.are("addNote", new int[] {x.addNote(19, 1, 0, 10), x.addNote(20, 1, 0, 10), x.addNote(19, 2, 0, 10), x.addNote(19,
                1, 1, 10),
            x.addNote(19, 1, 0, 11)}, LIMIT, INVALID, INVALID, INVALID, INVALID);
    }

    /** "LIMIT_REACHED rather than NOT_FOUND", where no call answers both; INVALID_ARGUMENT goes before both. */
    private static void invalidArgumentRatherThanNotFound() {
        BilingualSetter x = THREE.make();
        Due.are("removeNote", new int[] {x.removeNote(0, 1), x.removeNote(2, 1), x.removeNote(-1, 1)}, MISSING, INVALID,
                INVALID);
        Due.are("noteInfo", new int[] {x.noteInfo(0, 1, 2), x.noteInfo(0, 1, 3), x.noteInfo(0, 1, -1), x.noteInfo(2, 1, 2)},
                MISSING, INVALID, INVALID, INVALID);
        Due.are("segmentInfo", new int[] {x.segmentInfo(0, 1, 7), x.segmentInfo(0, 1, 8), x.segmentInfo(1, 1, 7),
                x.segmentInfo(0, -1, 7)},
                MISSING, INVALID, INVALID, INVALID);
        x.set(0, 8);
        Due.are("bestBreak", new int[] {x.bestBreak(0), x.bestBreak(-1)}, MISSING, INVALID);
        x.insert(1, 30, 30);
        x.insert(2, 30, 30);
        Due.are("leastHeight", new int[] {x.leastHeight(1), x.leastHeight(0), x.leastHeight(41)}, MISSING, INVALID, INVALID);
    }

    /** "An object is used for at most 512 calls after it has been made": the last one answers as any other. */
    private static void theLastOf512Calls() {
        BilingualSetter x = new BilingualSetter();
        x.insert(0, 10, 10);
        for (int call = 2; call <= 509; call++) {
            x.set(0, 8 + call % 50);
        }
        // The calls 504 to 509 are kept, of which the last one is undone.
        Due.are("the calls 510 to 512", new int[] {x.undo(), x.leastHeight(1), x.set(0, 20)}, 5, 10, 8 + 508 % 50);
    }
}
