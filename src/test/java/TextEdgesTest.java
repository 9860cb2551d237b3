/**
 * The boundary cases of the document's parts 'Text' and 'Settings' and of the promises 1 to 8 and
 * 10 to 13. Each method stands for one sentence, which is told above it where its name is not enough.
 */
final class TextEdgesTest {
    private static final int INVALID = -1;
    private static final int IMPOSSIBLE = -2;
    private static final int LIMIT = -3;
    private static final int MISSING = -4;
    private static final int LEAST_INT = Integer.MIN_VALUE;
    private static final int GREATEST_INT = Integer.MAX_VALUE;

    /** Three pairs of 5 left and 7 right lines, of which the middle one has three left notes and a right one. */
    private static final Twins THREE = new Twins(
            x -> x.set(0, 10),
            x -> x.insert(0, 5, 7), x -> x.insert(1, 5, 7), x -> x.insert(2, 5, 7),
            x -> x.setFlag(1, 0, 1), x -> x.setFlag(2, 1, 1),
            x -> x.addNote(1, 0, 2, 3), x -> x.addNote(1, 0, 2, 4), x -> x.addNote(1, 0, 3, 5), x -> x.addNote(1, 1, 6, 6));
    private static final Twins EMPTY = new Twins();

    private TextEdgesTest() {
    }

    public static void main(String[] args) {
        textPairs();
        textNotes();
        settings();
        promises1To5();
        promises6To8();
        promises10To13();
        Due.end("TextEdgesTest");
    }

    private static void textPairs() {
        atMost20Pairs();
        placeForA20thPairAgain();
        pairsAreNumberedFrom0();
        sidesAre0And1();
        oneTo30Lines();
        linesAreNumberedFrom0();
        initiallyNeitherKeptNorBroken();
    }

    private static void textNotes() {
        atMost40Notes();
        placeForA40thNoteAgain();
        all40NotesOfOneSide();
        notesOf1To10Lines();
        notesAreNumberedFrom0();
        notesByPairsThenLines();
        notesOfTheSameLineAsTheyWereAdded();
    }

    private static void settings() {
        height8To60();
        gap0To3();
        rule0To2();
        least1To4();
        carry0To5();
        align0Or1();
        initialSettings();
    }

    private static void promises1To5() {
        promise1EmptyEdition();
        promise2RangesOfInsert();
        promise2InsertAtBothEnds();
        promise2NotesBesideTheNewPair();
        promise2LimitOfInsert();
        promise3RangeOfRemove();
        promise3RemoveDownToNone();
        promise3PairsBesideTheRemovedPair();
        promise3NotesOfTheRemovedPair();
        promise4RangesOfSetLines();
        promise4LineOfANoteThatWouldNotExist();
        promise5RangesOfSetFlag();
    }

    private static void promises6To8() {
        promise6RangesOfAddNote();
        promise6LimitOfAddNote();
        promise7RangesOfRemoveNote();
        promise7NoSuchNote();
        promise7RemoveDownToNone();
        promise8RangesOfSet();
    }

    private static void promises10To13() {
        promise10CountsOfPairs();
        promise11RangesOfPairInfo();
        promise12RangesOfNoteCount();
        promise13RangesOfNoteInfo();
        promise13NoSuchNote();
    }

    private static BilingualSetter withPairs(int pairs, int left, int right) {
        BilingualSetter x = new BilingualSetter();
        for (int pair = 0; pair < pairs; pair++) {
            x.insert(pair, left, right);
        }
        return x;
    }

    private static Twins full() {
        Twins.Call[] making = new Twins.Call[60];
        for (int n = 0; n < 20; n++) {
            int pair = n;
            making[pair] = x -> x.insert(pair, 2, 3);
            making[20 + 2 * pair] = x -> x.addNote(pair, 0, 1, 1);
            making[21 + 2 * pair] = x -> x.addNote(pair, 1, 2, 2);
        }
        return new Twins(making);
    }

    // ---- 'Text': pairs

    /** "There are at most 20 pairs" */
    private static void atMost20Pairs() {
        BilingualSetter x = withPairs(19, 1, 1);
        Due.are("the 20th pair and a 21st at each place", new int[] {x.insert(19, 2, 2), x.insert(0, 2, 2), x.insert(10, 2, 2),
            x.insert(20, 2, 2), x.pairCount()}, 20, LIMIT, LIMIT, LIMIT, 20);
        Due.are("the 19th and the 20th", new int[] {x.pairInfo(18, 0), x.pairInfo(19, 0)}, 1, 2);
    }

    private static void placeForA20thPairAgain() {
        BilingualSetter x = withPairs(20, 1, 1);
        Due.are("behind remove", new int[] {x.remove(19), x.insert(0, 2, 2), x.insert(0, 2, 2)}, 19, 20, LIMIT);
        Due.are("behind undo", new int[] {x.undo(), x.insert(19, 3, 3), x.insert(19, 3, 3)}, 5, 20, LIMIT);
    }

    /** "numbered from 0 in their order" */
    private static void pairsAreNumberedFrom0() {
        for (int pairs : new int[] {1, 2, 20}) {
            BilingualSetter x = withPairs(pairs, 4, 4);
            Due.are("the first and the last of " + pairs, new int[] {x.pairInfo(0, 0), x.pairInfo(pairs - 1, 0)}, 4, 4);
            Due.are("before the first and behind the last of " + pairs,
                    new int[] {x.pairInfo(-1, 0), x.pairInfo(pairs, 0), x.remove(pairs), x.remove(-1)},
                    INVALID, INVALID, INVALID, INVALID);
        }
    }

    /** "A pair has two sides, 0 (left) and 1 (right)" */
    private static void sidesAre0And1() {
        THREE.range("side of setLines", 0, 1, (x, side) -> x.setLines(0, side, 5));
        THREE.range("side of addNote", 0, 1, (x, side) -> x.addNote(0, side, 0, 1));
        THREE.range("side of removeNote", 0, 1, (x, side) -> x.removeNote(side, 0));
        THREE.range("side of noteCount", 0, 1, (x, side) -> x.noteCount(side));
        THREE.range("side of noteInfo", 0, 1, (x, side) -> x.noteInfo(side, 0, 0));
        BilingualSetter x = withPairs(1, 3, 9);
        Due.are("left is 0, right is 1", new int[] {x.setLines(0, 0, 4), x.setLines(0, 1, 8)}, 3, 9);
    }

    /** "each a paragraph with 1 to 30 lines" */
    private static void oneTo30Lines() {
        BilingualSetter x = new BilingualSetter();
        Due.are("insert 0, 1, 30, 31 left lines",
                new int[] {x.insert(0, 0, 9), x.insert(0, 1, 9), x.insert(0, 30, 9), x.insert(0, 31, 9)}, INVALID, 1, 2,
                        INVALID);
        Due.are("insert 0, 1, 30, 31 right lines",
                new int[] {x.insert(0, 9, 0), x.insert(0, 9, 1), x.insert(0, 9, 30), x.insert(0, 9, 31)}, INVALID, 3, 4,
                        INVALID);
        for (int side = 0; side < 2; side++) {
            x.setLines(0, side, 9);
            Due.are("set 0, 1, 30, 31 lines of side " + side, new int[] {x.setLines(0, side, 0), x.setLines(0, side, 1),
                x.setLines(0, side, 30), x.setLines(0, side, 31), x.pairInfo(0, side)}, INVALID, 9, 1, INVALID, 30);
        }
    }

    /** "numbered from 0": the lines of each side for themselves. */
    private static void linesAreNumberedFrom0() {
        BilingualSetter x = withPairs(1, 3, 5);
        Due.are("notes at left lines -1, 0, 2, 3",
                new int[] {x.addNote(0, 0, -1, 1), x.addNote(0, 0, 0, 1), x.addNote(0, 0, 2, 1), x.addNote(0, 0, 3, 1)},
                INVALID, 0, 1, INVALID);
        Due.are("notes at right lines -1, 0, 4, 5",
                new int[] {x.addNote(0, 1, -1, 1), x.addNote(0, 1, 0, 1), x.addNote(0, 1, 4, 1), x.addNote(0, 1, 5, 1)},
                INVALID, 0, 1, INVALID);
        Due.are("rows of left lines -1, 0, 2, 3", new int[] {x.rowOf(0, 0, -1), x.rowOf(0, 0, 0), x.rowOf(0, 0, 2), x.rowOf(0,
                0, 3)},
                INVALID, 0, 2, INVALID);
        Due.are("rows of right lines -1, 0, 4, 5", new int[] {x.rowOf(0, 1, -1), x.rowOf(0, 1, 0), x.rowOf(0, 1, 4), x.rowOf(0,
                1, 5)},
                INVALID, 0, 4, INVALID);
        x = withPairs(1, 1, 30);
        Due.are("the only line of the least pair", new int[] {x.rowOf(0, 0, 0), x.rowOf(0, 0, 1)}, 0, INVALID);
        Due.are("the last line of the greatest pair", new int[] {x.addNote(0, 1, 29, 1), x.addNote(0, 1, 30, 1)}, 0, INVALID);
    }

    /** "A pair can be kept (it is not split) and can have a break before it; initially it is not so." */
    private static void initiallyNeitherKeptNorBroken() {
        BilingualSetter x = withPairs(1, 5, 5);
        Due.are("a new pair", Ask.pair(x, 0), 5, 5, 0, 0);
        x.setFlag(0, 0, 1);
        x.setFlag(0, 1, 1);
        x.insert(0, 6, 6);
        Due.are("a new pair before one with flags", Ask.pair(x, 0), 6, 6, 0, 0);
        x.insert(2, 7, 7);
        Due.are("a new pair behind one with flags", Ask.pair(x, 2), 7, 7, 0, 0);
        x.setFlag(2, 0, 1);
        x.setFlag(2, 1, 1);
        x.remove(2);
        x.insert(2, 8, 8);
        Due.are("a new pair at the place of one with flags", Ask.pair(x, 2), 8, 8, 0, 0);
    }

    // ---- 'Text': notes

    /** "There are at most 40 notes.": those of both sides together. */
    private static void atMost40Notes() {
        for (int onTheLeft : new int[] {0, 1, 20, 39, 40}) {
            BilingualSetter x = withPairs(1, 1, 1);
            for (int note = 0; note < 39; note++) {
                x.addNote(0, note < onTheLeft ? 0 : 1, 0, 1);
            }
            int side = onTheLeft == 40 ? 0 : 1;
            Due.are("the 40th note with " + onTheLeft + " left ones, and a 41st", new int[] {x.addNote(0, side, 0, 1),
                x.addNote(0, 0, 0, 1), x.addNote(0, 1, 0, 1), x.noteCount(0), x.noteCount(1)},
                    side == 0 ? 39 : 39 - onTheLeft, LIMIT, LIMIT, onTheLeft, 40 - onTheLeft);
        }
    }

    private static void placeForA40thNoteAgain() {
        BilingualSetter x = full().make();
        Due.are("behind removeNote", new int[] {x.removeNote(0, 0), x.addNote(0, 1, 0, 1), x.addNote(0, 1, 0, 1)}, 19, 0,
                LIMIT);
        Due.are("behind undo", new int[] {x.undo(), x.addNote(19, 0, 0, 1), x.addNote(19, 0, 0, 1)}, 5, 18, LIMIT);
        Due.are("behind remove", new int[] {x.remove(5), x.addNote(0, 0, 0, 1), x.addNote(0, 0, 0, 1), x.addNote(0, 0, 0, 1)},
                19, 0, 1, LIMIT);
    }

    /** With all 40 notes on one side every change of pairs and notes goes as with fewer. */
    private static void all40NotesOfOneSide() {
        for (int side = 0; side < 2; side++) {
            BilingualSetter x = withPairs(2, 1, 1);
            for (int note = 0; note < 40; note++) {
                x.addNote(1, side, 0, 1 + note % 10);
            }
            Due.are("the last note of 40", Ask.note(x, side, 39), 1, 0, 10);
            Due.are("a pair before them", new int[] {x.insert(1, 1, 1), x.noteInfo(side, 0, 0), x.noteInfo(side, 39, 0)}, 3, 2,
                    2);
            Due.are("without the pair before them", new int[] {x.remove(0), x.noteInfo(side, 0, 0), x.noteInfo(side, 39, 0)},
                    2, 1, 1);
            Due.are("undo", new int[] {x.undo(), x.noteInfo(side, 0, 0), x.noteInfo(side, 39, 0)}, 5, 2, 2);
            Due.are("one page with all", new int[] {x.spreadCount(), x.pageInfo(1, side, 5), x.pageInfo(1, side, 4),
                    x.noteCount(side)}, 3, 40, 3, 40);
            Due.are("the last and the first one", new int[] {x.removeNote(side, 39), x.removeNote(side, 0), x.noteInfo(side,
                    37, 2),
                x.noteInfo(side, 38, 2)}, 39, 38, 9, MISSING);
        }
    }

    /** "has a length of 1 to 10 lines" */
    private static void notesOf1To10Lines() {
        BilingualSetter x = withPairs(1, 4, 4);
        Due.are("lengths of 0, 1, 10, 11",
                new int[] {x.addNote(0, 0, 0, 0), x.addNote(0, 0, 0, 1), x.addNote(0, 0, 0, 10), x.addNote(0, 0, 0, 11)},
                INVALID, 0, 1, INVALID);
        Due.are("lengths", Ask.lengths(x, 0), 1, 10);
    }

    /** "The notes of a side are numbered from 0": each side for itself. */
    private static void notesAreNumberedFrom0() {
        BilingualSetter x = withPairs(1, 4, 4);
        Due.are("the first note of each side", new int[] {x.addNote(0, 1, 3, 1), x.addNote(0, 0, 3, 2)}, 0, 0);
        for (int note = 1; note <= 38; note++) {
            Due.is("right note " + note, x.addNote(0, 1, 3, 1), note);
        }
        Due.are("the last of 39 right notes", Ask.note(x, 1, 38), 0, 3, 1);
        Due.are("left notes", new int[] {x.noteInfo(0, 0, 2), x.noteInfo(0, 1, 2)}, 2, MISSING);
    }

    /** "ordered by their pairs, then by their lines": the last line of a pair stands before the first of the next. */
    private static void notesByPairsThenLines() {
        BilingualSetter x = withPairs(3, 4, 4);
        Due.are("the first line of pair 1, the last of pair 0, the first of pair 2, the last of pair 1",
                new int[] {x.addNote(1, 0, 0, 3), x.addNote(0, 0, 3, 2), x.addNote(2, 0, 0, 5), x.addNote(1, 0, 3, 4)}, 0, 0,
                        2, 2);
        Due.are("the first line of pair 0, the last of pair 2", new int[] {x.addNote(0, 0, 0, 1), x.addNote(2, 0, 3, 6)}, 0, 5);
        Due.are("lengths", Ask.lengths(x, 0), 1, 2, 3, 4, 5, 6);
        Due.are("pairs", Ask.pairsOfNotes(x, 0), 0, 0, 1, 1, 2, 2);
        Due.are("lines", Ask.linesOfNotes(x, 0), 0, 3, 0, 3, 0, 3);
    }

    /** "and those of the same line in the order in which they were added" */
    private static void notesOfTheSameLineAsTheyWereAdded() {
        BilingualSetter x = withPairs(2, 2, 2);
        Due.are("three notes of a line between others", new int[] {x.addNote(0, 1, 1, 9), x.addNote(0, 1, 0, 3),
            x.addNote(0, 1, 0, 1), x.addNote(0, 1, 0, 2), x.addNote(1, 1, 0, 8)}, 0, 0, 1, 2, 4);
        Due.are("lengths", Ask.lengths(x, 1), 3, 1, 2, 9, 8);
        x.removeNote(1, 0);
        Due.is("the first one is added again", x.addNote(0, 1, 0, 3), 2);
        Due.are("lengths", Ask.lengths(x, 1), 1, 2, 3, 9, 8);
        x.undo();
        Due.is("another one behind undo", x.addNote(0, 1, 0, 4), 2);
        Due.are("lengths", Ask.lengths(x, 1), 1, 2, 4, 9, 8);
        x.insert(0, 2, 2);
        Due.is("behind a pair that was put before", x.addNote(1, 1, 0, 5), 3);
        Due.are("lengths", Ask.lengths(x, 1), 1, 2, 4, 5, 9, 8);
    }

    // ---- 'Settings'

    /** Below the least value, the least one, the greatest one, above it, and what stands then. */
    private static void setting(String name, int what, int low, int high, int initial) {
        BilingualSetter x = new BilingualSetter();
        Due.are(name + " " + (low - 1) + ", " + low + ", " + high + ", " + (high + 1) + " and " + initial,
                new int[] {x.set(what, low - 1), x.set(what, low), x.set(what, high), x.set(what, high + 1), x.set(what,
                        initial)},
                INVALID, initial, low, INVALID, high);
        THREE.range(name, low, high, (y, value) -> y.set(what, value));
    }

    private static void height8To60() {
        setting("height", 0, 8, 60, 20);
        BilingualSetter x = withPairs(1, 8, 8);
        x.set(0, 8);
        Due.are("8 lines in 8 rows", new int[] {x.spreadCount(), x.pageInfo(0, 0, 2)}, 1, 0);
        x = withPairs(2, 30, 30);
        x.set(1, 0);
        x.set(0, 60);
        Due.are("60 lines in 60 rows", new int[] {x.spreadCount(), x.pageInfo(0, 1, 2)}, 1, 0);
    }

    private static void gap0To3() {
        setting("gap", 1, 0, 3, 1);
        BilingualSetter x = withPairs(2, 4, 4);
        Due.is("gap 1", x.rowOf(1, 0, 0), 5);
        x.set(1, 0);
        Due.is("gap 0", x.rowOf(1, 0, 0), 4);
        x.set(1, 3);
        Due.is("gap 3", x.rowOf(1, 0, 0), 7);
    }

    private static void rule0To2() {
        setting("rule", 2, 0, 2, 1);
        BilingualSetter x = withPairs(1, 4, 4);
        x.addNote(0, 0, 0, 2);
        Due.is("rule 1", x.pageInfo(0, 0, 1), 3);
        x.set(2, 0);
        Due.is("rule 0", x.pageInfo(0, 0, 1), 2);
        x.set(2, 2);
        Due.is("rule 2", x.pageInfo(0, 0, 1), 4);
    }

    private static void least1To4() {
        setting("least", 3, 1, 4, 2);
        BilingualSetter x = withPairs(1, 9, 9);
        x.set(0, 8);
        Due.is("least 2", x.segmentInfo(0, 0, 2), 7);
        x.set(3, 1);
        Due.is("least 1", x.segmentInfo(0, 0, 2), 8);
        x.set(3, 4);
        Due.is("least 4", x.segmentInfo(0, 0, 2), 5);
    }

    private static void carry0To5() {
        setting("carry", 4, 0, 5, 3);
        BilingualSetter x = withPairs(1, 8, 8);
        x.set(0, 8);
        x.addNote(0, 0, 0, 10);
        x.setFlag(0, 0, 1);
        Due.is("carry 3", x.pageInfo(0, 0, 4), 3);
        x.set(4, 0);
        Due.is("carry 0", x.pageInfo(0, 0, 4), 0);
        x.set(4, 5);
        Due.is("carry 5", x.pageInfo(0, 0, 4), 5);
    }

    private static void align0Or1() {
        setting("align", 5, 0, 1, 0);
        BilingualSetter x = withPairs(2, 4, 2);
        Due.are("align 0", new int[] {x.rowOf(1, 0, 0), x.rowOf(1, 1, 0)}, 5, 3);
        x.set(5, 1);
        Due.are("align 1", new int[] {x.rowOf(1, 0, 0), x.rowOf(1, 1, 0)}, 5, 5);
    }

    /** The first value of each setting, which a new object uses without any call of set. */
    private static void initialSettings() {
        int[] initial = {20, 1, 1, 2, 3, 0};
        for (int what = 0; what < 6; what++) {
            Due.is("initial setting " + what, new BilingualSetter().set(what, initial[what]), initial[what]);
        }
        BilingualSetter x = withPairs(2, 8, 6);
        x.addNote(0, 0, 0, 3);
        Due.are("the first page", new int[] {x.pageInfo(0, 0, 0), x.pageInfo(0, 0, 1), x.pageInfo(0, 0, 2), x.pageInfo(0, 0,
                4)},
                17, 3, 0, 1);
        Due.is("the second right segment is not aligned", x.rowOf(1, 1, 0), 7);
    }

    // ---- the promises 1 to 5

    /** "Creates an empty edition" */
    private static void promise1EmptyEdition() {
        BilingualSetter x = new BilingualSetter();
        Due.are("counts", new int[] {x.pairCount(), x.noteCount(0), x.noteCount(1), x.spreadCount(), x.splitPairs()}, 0, 0, 0,
                0, 0);
        EMPTY.unchanged("no history", IMPOSSIBLE, y -> y.undo());
        EMPTY.none("remove from none", (y, pair) -> y.remove(pair));
        EMPTY.none("setLines of none", (y, pair) -> y.setLines(pair, 0, 5));
        EMPTY.none("setFlag of none", (y, pair) -> y.setFlag(pair, 0, 1));
        EMPTY.none("addNote of none", (y, pair) -> y.addNote(pair, 0, 0, 1));
        EMPTY.none("pairInfo of none", (y, pair) -> y.pairInfo(pair, 0));
        EMPTY.unchanged("removeNote of none", MISSING, y -> y.removeNote(0, 0));
        EMPTY.unchanged("noteInfo of none", MISSING, y -> y.noteInfo(1, 0, 0));
    }

    private static void promise2RangesOfInsert() {
        THREE.range("at of insert", 0, 3, (x, at) -> x.insert(at, 5, 5));
        THREE.range("left of insert", 1, 30, (x, left) -> x.insert(0, left, 5));
        THREE.range("right of insert", 1, 30, (x, right) -> x.insert(3, 5, right));
        EMPTY.range("at of the first insert", 0, 0, (x, at) -> x.insert(at, 5, 5));
    }

    /** "0 to the number of pairs: its number" */
    private static void promise2InsertAtBothEnds() {
        BilingualSetter x = new BilingualSetter();
        Due.are("at 0 of none, at the end, at 0", new int[] {x.insert(0, 2, 2), x.insert(1, 3, 3), x.insert(0, 1, 1)}, 1, 2, 3);
        Due.are("left lines", new int[] {x.pairInfo(0, 0), x.pairInfo(1, 0), x.pairInfo(2, 0)}, 1, 2, 3);
    }

    /**
     * A note belongs to its line: that of the first line behind the new pair moves with it, that of the last
     * before it stays.
     */
    private static void promise2NotesBesideTheNewPair() {
        for (int side = 0; side < 2; side++) {
            for (int at = 0; at <= 3; at++) {
                BilingualSetter x = withPairs(3, 2, 2);
                for (int pair = 0; pair < 3; pair++) {
                    x.addNote(pair, side, 0, 1);
                    x.addNote(pair, side, 1, 1);
                }
                x.insert(at, 2, 2);
                int[] due = new int[6];
                for (int note = 0; note < 6; note++) {
                    due[note] = note / 2 < at ? note / 2 : note / 2 + 1;
                }
                Due.are("pairs of notes behind insert at " + at, Ask.pairsOfNotes(x, side), due);
                Due.are("lines of notes behind insert at " + at, Ask.linesOfNotes(x, side), 0, 1, 0, 1, 0, 1);
            }
        }
    }

    /** "LIMIT_REACHED if there are 20 pairs", but INVALID_ARGUMENT rather than that. */
    private static void promise2LimitOfInsert() {
        Twins full = full();
        full.unchanged("a 21st pair before all", LIMIT, x -> x.insert(0, 5, 5));
        full.unchanged("a 21st pair behind all", LIMIT, x -> x.insert(20, 30, 30));
        full.unchanged("at 21", INVALID, x -> x.insert(21, 5, 5));
        full.unchanged("at -1", INVALID, x -> x.insert(-1, 5, 5));
        full.unchanged("no left lines", INVALID, x -> x.insert(0, 0, 5));
        full.unchanged("31 right lines", INVALID, x -> x.insert(0, 5, 31));
    }

    private static void promise3RangeOfRemove() {
        THREE.range("pair of remove", 0, 2, (x, pair) -> x.remove(pair));
        full().range("pair of remove from 20", 0, 19, (x, pair) -> x.remove(pair));
    }

    /** "Returns the number of pairs that remain" */
    private static void promise3RemoveDownToNone() {
        BilingualSetter x = withPairs(3, 5, 5);
        Due.are("the last, the first, the only one, none", new int[] {x.remove(2), x.remove(0), x.remove(0), x.remove(0)}, 2,
                1, 0, INVALID);
        Due.are("then there is nothing", new int[] {x.pairCount(), x.spreadCount(), x.bestCost(), x.cost()}, 0, 0, 0, 0);
        x = withPairs(20, 5, 5);
        Due.are("the last of 20", new int[] {x.remove(19), x.remove(19), x.remove(18)}, 19, INVALID, 18);
    }

    /** The pairs behind it get the numbers before theirs, those before it keep them. */
    private static void promise3PairsBesideTheRemovedPair() {
        int[][] due = {{2, 3, 4}, {1, 3, 4}, {1, 2, 4}, {1, 2, 3}};
        for (int removed = 0; removed < 4; removed++) {
            BilingualSetter x = new BilingualSetter();
            for (int pair = 0; pair < 4; pair++) {
                x.insert(pair, pair + 1, pair + 11);
                x.setFlag(pair, 0, pair % 2);
                x.setFlag(pair, 1, pair / 2);
            }
            x.remove(removed);
            for (int pair = 0; pair < 3; pair++) {
                int left = due[removed][pair];
                Due.are("pair " + pair + " without pair " + removed, Ask.pair(x, pair), left, left + 10, (left - 1) % 2,
                        (left - 1) / 2);
            }
        }
    }

    /** "Removes a pair with its notes": with all of them, and with no note of the pairs beside it. */
    private static void promise3NotesOfTheRemovedPair() {
        BilingualSetter x = withPairs(3, 4, 4);
        x.addNote(0, 0, 3, 1);
        x.addNote(1, 0, 0, 2);
        x.addNote(1, 0, 3, 3);
        x.addNote(2, 0, 0, 4);
        x.addNote(1, 1, 0, 5);
        x.addNote(1, 1, 3, 6);
        Due.is("the middle one", x.remove(1), 2);
        Due.are("left lengths", Ask.lengths(x, 0), 1, 4);
        Due.are("right lengths", Ask.lengths(x, 1));
        Due.are("the note of the pair behind", Ask.note(x, 0, 1), 1, 0, 4);
        x.remove(1);
        x.remove(0);
        Due.are("all are gone", new int[] {x.noteCount(0), x.noteCount(1)}, 0, 0);
        x = withPairs(1, 1, 1);
        for (int note = 0; note < 40; note++) {
            x.addNote(0, 1, 0, 1);
        }
        Due.are("40 notes of one pair", new int[] {x.remove(0), x.noteCount(1), x.undo(), x.noteCount(1)}, 0, 0, 5, 40);
    }

    private static void promise4RangesOfSetLines() {
        THREE.range("pair of setLines", 0, 2, (x, pair) -> x.setLines(pair, 0, 5));
        THREE.range("lines of setLines, left", 1, 30, (x, lines) -> x.setLines(0, 0, lines));
        THREE.range("lines of setLines, right", 1, 30, (x, lines) -> x.setLines(2, 1, lines));
    }

    /** "NOT_POSSIBLE if a note belongs to a line that would not exist", but INVALID_ARGUMENT rather than that. */
    private static void promise4LineOfANoteThatWouldNotExist() {
        THREE.unchanged("left line 3 would not exist", IMPOSSIBLE, x -> x.setLines(1, 0, 3));
        THREE.unchanged("neither would line 2", IMPOSSIBLE, x -> x.setLines(1, 0, 1));
        THREE.unchanged("right line 6 would not exist", IMPOSSIBLE, x -> x.setLines(1, 1, 6));
        THREE.unchanged("0 lines are invalid", INVALID, x -> x.setLines(1, 0, 0));
        THREE.unchanged("no such side", INVALID, x -> x.setLines(1, 2, 3));
        BilingualSetter x = THREE.make();
        Due.are("the notes' last lines would be the last ones", new int[] {x.setLines(1, 0, 4), x.setLines(1, 1, 7)}, 5, 7);
        Due.are("the pairs beside it have no notes", new int[] {x.setLines(0, 0, 1), x.setLines(2, 0, 1), x.setLines(2, 1, 1)},
                5, 5, 7);
        x.addNote(2, 1, 0, 1);
        Due.is("a note of the next pair's first line does not matter", x.setLines(1, 1, 7), 7);
        x.removeNote(0, 2);
        Due.are("without the note of line 3", new int[] {x.setLines(1, 0, 3), x.setLines(1, 0, 2)}, 4, IMPOSSIBLE);
    }

    private static void promise5RangesOfSetFlag() {
        THREE.range("pair of setFlag", 0, 2, (x, pair) -> x.setFlag(pair, 0, 1));
        THREE.range("what of setFlag", 0, 1, (x, what) -> x.setFlag(0, what, 1));
        THREE.range("on of setFlag, kept", 0, 1, (x, on) -> x.setFlag(0, 0, on));
        THREE.range("on of setFlag, break", 0, 1, (x, on) -> x.setFlag(0, 1, on));
    }

    // ---- the promises 6 to 8

    private static void promise6RangesOfAddNote() {
        THREE.range("pair of addNote", 0, 2, (x, pair) -> x.addNote(pair, 0, 0, 1));
        THREE.range("line of addNote, left", 0, 4, (x, line) -> x.addNote(1, 0, line, 1));
        THREE.range("line of addNote, right", 0, 6, (x, line) -> x.addNote(1, 1, line, 1));
        THREE.range("length of addNote", 1, 10, (x, length) -> x.addNote(1, 1, 0, length));
    }

    /** "LIMIT_REACHED if there are 40 notes", but INVALID_ARGUMENT rather than that. */
    private static void promise6LimitOfAddNote() {
        Twins full = full();
        full.unchanged("a 41st note on the left", LIMIT, x -> x.addNote(0, 0, 0, 1));
        full.unchanged("a 41st note on the right", LIMIT, x -> x.addNote(19, 1, 2, 10));
        full.unchanged("of pair 20", INVALID, x -> x.addNote(20, 0, 0, 1));
        full.unchanged("of side 2", INVALID, x -> x.addNote(0, 2, 0, 1));
        full.unchanged("of line 2 of 2", INVALID, x -> x.addNote(0, 0, 2, 1));
        full.unchanged("of length 11", INVALID, x -> x.addNote(0, 0, 0, 11));
        full.unchanged("of length 0", INVALID, x -> x.addNote(0, 0, 0, 0));
    }

    /** "number of the note, 0 or more"; "INVALID_ARGUMENT if side is out of range or note is negative" */
    private static void promise7RangesOfRemoveNote() {
        THREE.fromZero("note of removeNote", (x, note) -> x.removeNote(0, note));
        THREE.unchanged("no side, though no note either", INVALID, x -> x.removeNote(2, 3));
        THREE.unchanged("no side, and a note that is negative", INVALID, x -> x.removeNote(-1, -1));
    }

    /** "NOT_FOUND if there is no such note" */
    private static void promise7NoSuchNote() {
        THREE.unchanged("left note 3 of 3", MISSING, x -> x.removeNote(0, 3));
        THREE.unchanged("right note 1 of 1", MISSING, x -> x.removeNote(1, 1));
        THREE.unchanged("the greatest number", MISSING, x -> x.removeNote(0, GREATEST_INT));
        Due.are("the last ones", new int[] {THREE.make().removeNote(0, 2), THREE.make().removeNote(1, 0)}, 2, 0);
        full().unchanged("left note 20 of 20", MISSING, x -> x.removeNote(0, 20));
    }

    /** "Returns the number of notes of this side that remain" */
    private static void promise7RemoveDownToNone() {
        BilingualSetter x = THREE.make();
        Due.are("the last, the first, the only one, none",
                new int[] {x.removeNote(0, 2), x.removeNote(0, 0), x.noteInfo(0, 0, 2), x.removeNote(0, 0), x.removeNote(0, 0)},
                2, 1, 4, 0, MISSING);
        Due.is("the other side has its note", x.noteCount(1), 1);
    }

    private static void promise8RangesOfSet() {
        THREE.range("what of set", 0, 5, (x, what) -> x.set(what, what == 0 ? 8 : 1));
        THREE.range("what of set with a height", 0, 0, (x, what) -> x.set(what, 60));
        THREE.unchanged("both out of range", INVALID, x -> x.set(6, LEAST_INT));
    }

    // ---- the promises 10 to 13

    private static void promise10CountsOfPairs() {
        Due.are("none, three and twenty",
                new int[] {new BilingualSetter().pairCount(), THREE.make().pairCount(), full().make().pairCount()}, 0, 3, 20);
        THREE.unchanged("pairCount", 3, x -> x.pairCount());
    }

    private static void promise11RangesOfPairInfo() {
        THREE.range("pair of pairInfo", 0, 2, (x, pair) -> x.pairInfo(pair, 0));
        THREE.range("what of pairInfo", 0, 3, (x, what) -> x.pairInfo(1, what));
        BilingualSetter x = THREE.make();
        Due.are("a pair that is kept, one with a break", new int[] {x.pairInfo(1, 2), x.pairInfo(1, 3), x.pairInfo(2, 2),
                x.pairInfo(2, 3)},
                1, 0, 0, 1);
    }

    private static void promise12RangesOfNoteCount() {
        THREE.range("side of noteCount", 0, 1, (x, side) -> x.noteCount(side));
        BilingualSetter x = THREE.make();
        Due.are("three and one", new int[] {x.noteCount(0), x.noteCount(1)}, 3, 1);
        EMPTY.range("side of noteCount without notes", 0, 1, (y, side) -> y.noteCount(side));
    }

    private static void promise13RangesOfNoteInfo() {
        THREE.fromZero("note of noteInfo", (x, note) -> x.noteInfo(1, note, 0));
        THREE.range("what of noteInfo", 0, 2, (x, what) -> x.noteInfo(0, 0, what));
        THREE.unchanged("no such property, though no note either", INVALID, x -> x.noteInfo(0, 3, 3));
        THREE.unchanged("no side, though no note either", INVALID, x -> x.noteInfo(2, 3, 0));
    }

    /** "NOT_FOUND if there is no such note" */
    private static void promise13NoSuchNote() {
        THREE.unchanged("left note 3 of 3", MISSING, x -> x.noteInfo(0, 3, 0));
        THREE.unchanged("right note 1 of 1", MISSING, x -> x.noteInfo(1, 1, 2));
        THREE.unchanged("the greatest number", MISSING, x -> x.noteInfo(1, GREATEST_INT, 2));
        BilingualSetter x = THREE.make();
        Due.are("the last left note", Ask.note(x, 0, 2), 1, 3, 5);
        Due.are("the last right note", Ask.note(x, 1, 0), 1, 6, 6);
    }
}
