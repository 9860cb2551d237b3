/** The promises 1 to 13: pairs, notes, settings and undo. */
final class TextTest {
    private static final int INVALID = -1;
    private static final int IMPOSSIBLE = -2;
    private static final int LIMIT = -3;
    private static final int MISSING = -4;
    private static final int FAR = Integer.MAX_VALUE;

    private TextTest() {
    }

    public static void main(String[] args) {
        promise1NewObject();
        promise2Insert();
        promise3Remove();
        promise4SetLines();
        promise5SetFlag();
        promise6AddNote();
        promise6ErrorsOfAddNote();
        promise7RemoveNote();
        promise8Set();
        promise9Undo();
        promise9WhatIsAChange();
        promises10And11Pairs();
        promises12And13Notes();
        Due.end("TextTest");
    }

    private static void promise1NewObject() {
        Due.are("constants", new int[] {BilingualSetter.INVALID_ARGUMENT, BilingualSetter.NOT_POSSIBLE,
            BilingualSetter.LIMIT_REACHED, BilingualSetter.NOT_FOUND}, INVALID, IMPOSSIBLE, LIMIT, MISSING);
        BilingualSetter x = new BilingualSetter();
        Due.are("new: counts", new int[] {x.pairCount(), x.noteCount(0), x.noteCount(1), x.spreadCount(), x.undo()},
                0, 0, 0, 0, IMPOSSIBLE);
        Due.are("new: settings", new int[] {x.set(0, 20), x.set(1, 1), x.set(2, 1), x.set(3, 2), x.set(4, 3), x.set(5, 0)},
                20, 1, 1, 2, 3, 0);
        Due.are("new: questions", new int[] {x.cost(), x.bestCost(), x.bestBreak(0), x.leastHeight(1), x.overfullWith(8),
            x.splitPairs(), x.segmentCount(0), x.isOverfull(0)}, 0, 0, MISSING, 8, 0, 0, INVALID, INVALID);
        BilingualSetter y = new BilingualSetter();
        x.insert(0, 1, 1);
        Due.is("objects are apart: pairCount()", y.pairCount(), 0);
    }

    private static void promise2Insert() {
        BilingualSetter x = new BilingualSetter();
        Due.is("insert(0, 1, 30)", x.insert(0, 1, 30), 1);
        Due.is("insert(1, 30, 1) at the end", x.insert(1, 30, 1), 2);
        Due.is("insert(1, 7, 8) between", x.insert(1, 7, 8), 3);
        Due.are("pair 0", Ask.pair(x, 0), 1, 30, 0, 0);
        Due.are("pair 1", Ask.pair(x, 1), 7, 8, 0, 0);
        Due.are("pair 2", Ask.pair(x, 2), 30, 1, 0, 0);
        Due.are("insert out of range", new int[] {x.insert(-1, 5, 5), x.insert(4, 5, 5), x.insert(0, 0, 5), x.insert(0, 31, 5),
            x.insert(0, 5, 0), x.insert(0, 5, 31), x.insert(FAR, 5, 5)},
                INVALID, INVALID, INVALID, INVALID, INVALID, INVALID, INVALID);
        x.setFlag(1, 0, 1);
        x.setFlag(1, 1, 1);
        x.addNote(1, 0, 6, 4);
        x.addNote(0, 1, 0, 5);
        x.insert(1, 2, 3);
        Due.are("new pair 1 has no flags", Ask.pair(x, 1), 2, 3, 0, 0);
        Due.are("old pair 1 keeps them", Ask.pair(x, 2), 7, 8, 1, 1);
        Due.are("its note moves with it", Ask.note(x, 0, 0), 2, 6, 4);
        Due.are("the note before stays", Ask.note(x, 1, 0), 0, 0, 5);
        x.insert(0, 6, 6);
        Due.are("both notes move", new int[] {x.noteInfo(0, 0, 0), x.noteInfo(1, 0, 0)}, 3, 1);
        x.addNote(1, 0, 0, 1);
        x.insert(1, 6, 6);
        Due.are("a note of line 0 moves", Ask.note(x, 0, 0), 2, 0, 1);
        for (int count = 7; count <= 20; count++) {
            Due.is("insert up to 20", x.insert(0, 2, 2), count);
        }
        Due.is("insert a 21st", x.insert(20, 2, 2), LIMIT);
        Due.is("insert a 21st out of range", x.insert(21, 2, 2), INVALID);
        Due.is("still 20", x.pairCount(), 20);
        Due.are("the last of 20", Ask.pair(x, 19), 30, 1, 0, 0);
    }

    private static void promise3Remove() {
        BilingualSetter x = new BilingualSetter();
        Due.is("remove(0) of none", x.remove(0), INVALID);
        x.insert(0, 2, 3);
        x.insert(1, 4, 5);
        x.insert(2, 6, 7);
        x.setFlag(2, 1, 1);
        x.addNote(0, 0, 1, 1);
        x.addNote(1, 0, 1, 2);
        x.addNote(1, 0, 2, 3);
        x.addNote(2, 0, 3, 4);
        x.addNote(1, 1, 0, 5);
        Due.are("remove out of range", new int[] {x.remove(-1), x.remove(3)}, INVALID, INVALID);
        x.addNote(2, 0, 0, 6);
        x.addNote(2, 1, 0, 7);
        Due.is("remove(1)", x.remove(1), 2);
        Due.are("pair 1 is the former 2", Ask.pair(x, 1), 6, 7, 0, 1);
        Due.are("notes that are left", new int[] {x.noteCount(0), x.noteCount(1)}, 3, 1);
        Due.are("note 0", Ask.note(x, 0, 0), 0, 1, 1);
        Due.are("note 1", Ask.note(x, 0, 1), 1, 0, 6);
        Due.are("note 2", Ask.note(x, 0, 2), 1, 3, 4);
        Due.are("right note", Ask.note(x, 1, 0), 1, 0, 7);
        Due.are("remove the others", new int[] {x.remove(1), x.remove(0), x.remove(0)}, 1, 0, INVALID);
        Due.are("all is gone", new int[] {x.noteCount(0), x.spreadCount()}, 0, 0);
    }

    private static void promise4SetLines() {
        BilingualSetter x = new BilingualSetter();
        x.insert(0, 5, 6);
        Due.are("setLines", new int[] {x.setLines(0, 0, 30), x.setLines(0, 1, 1), x.setLines(0, 0, 30)}, 5, 6, 30);
        Due.are("pair", Ask.pair(x, 0), 30, 1, 0, 0);
        Due.are("setLines out of range", new int[] {x.setLines(1, 0, 5), x.setLines(-1, 0, 5), x.setLines(0, 2, 5),
            x.setLines(0, -1, 5), x.setLines(0, 0, 0), x.setLines(0, 0, 31)},
                INVALID, INVALID, INVALID, INVALID, INVALID, INVALID);
        x.addNote(0, 0, 9, 1);
        Due.is("the note's line would not exist", x.setLines(0, 0, 9), IMPOSSIBLE);
        Due.is("it would not, but out of range", x.setLines(0, 0, 0), INVALID);
        Due.is("nothing has changed", x.pairInfo(0, 0), 30);
        Due.is("the note's line is the last one", x.setLines(0, 0, 10), 30);
        Due.is("the other side has no notes", x.setLines(0, 1, 2), 1);
        x.insert(1, 3, 3);
        x.addNote(1, 0, 2, 1);
        Due.is("a note of the next pair does not matter", x.setLines(0, 0, 10), 10);
        Due.is("a note of the pair before does not matter", x.setLines(1, 0, 2), IMPOSSIBLE);
        Due.is("a pair's last line", x.setLines(1, 0, 3), 3);
        x.insert(2, 4, 4);
        x.addNote(2, 0, 0, 1);
        Due.is("nor a note of its first line", x.setLines(1, 0, 4), 3);
    }

    private static void promise5SetFlag() {
        BilingualSetter x = new BilingualSetter();
        x.insert(0, 5, 6);
        Due.are("kept", new int[] {x.setFlag(0, 0, 1), x.setFlag(0, 0, 1), x.setFlag(0, 0, 0), x.setFlag(0, 0, 0)}, 0, 1, 1, 0);
        Due.is("break", x.setFlag(0, 1, 1), 0);
        Due.are("pair", Ask.pair(x, 0), 5, 6, 0, 1);
        x.setFlag(0, 0, 1);
        Due.is("break off", x.setFlag(0, 1, 0), 1);
        Due.are("pair", Ask.pair(x, 0), 5, 6, 1, 0);
        Due.are("setFlag out of range", new int[] {x.setFlag(1, 0, 1), x.setFlag(-1, 0, 1), x.setFlag(0, 2, 1),
            x.setFlag(0, -1, 1), x.setFlag(0, 0, 2), x.setFlag(0, 0, -1)},
                INVALID, INVALID, INVALID, INVALID, INVALID, INVALID);
    }

    private static void promise6AddNote() {
        BilingualSetter x = new BilingualSetter();
        x.insert(0, 5, 6);
        x.insert(1, 5, 6);
        Due.is("the first note", x.addNote(1, 0, 2, 10), 0);
        Due.is("the other side", x.addNote(1, 1, 5, 1), 0);
        Due.is("an earlier line", x.addNote(1, 0, 1, 2), 0);
        Due.is("a later line", x.addNote(1, 0, 4, 3), 2);
        Due.is("the same line again", x.addNote(1, 0, 2, 4), 2);
        Due.is("an earlier pair, a later line", x.addNote(0, 0, 4, 5), 0);
        Due.is("number of notes", x.noteCount(0), 5);
        Due.are("note 0", Ask.note(x, 0, 0), 0, 4, 5);
        Due.are("note 1", Ask.note(x, 0, 1), 1, 1, 2);
        Due.are("note 2", Ask.note(x, 0, 2), 1, 2, 10);
        Due.are("note 3", Ask.note(x, 0, 3), 1, 2, 4);
        Due.are("note 4", Ask.note(x, 0, 4), 1, 4, 3);
    }

    private static void promise6ErrorsOfAddNote() {
        BilingualSetter x = new BilingualSetter();
        x.insert(0, 5, 6);
        Due.are("addNote out of range", new int[] {x.addNote(1, 0, 0, 1), x.addNote(-1, 0, 0, 1), x.addNote(0, 2, 0, 1),
            x.addNote(0, -1, 0, 1), x.addNote(0, 0, 5, 1), x.addNote(0, 0, -1, 1), x.addNote(0, 0, 0, 0),
            x.addNote(0, 0, 0, 11)}, INVALID, INVALID, INVALID, INVALID, INVALID, INVALID, INVALID, INVALID);
        for (int n = 0; n < 20; n++) {
            Due.is("left note " + n, x.addNote(0, 0, 0, 1), n);
            Due.is("right note " + n, x.addNote(0, 1, 5, 1), n);
        }
        Due.is("a 41st note", x.addNote(0, 0, 0, 1), LIMIT);
        Due.is("a 41st note out of range", x.addNote(0, 0, 5, 1), INVALID);
        Due.are("20 on each side", new int[] {x.noteCount(0), x.noteCount(1)}, 20, 20);
        x.removeNote(1, 0);
        Due.is("a 40th note", x.addNote(0, 0, 0, 1), 20);
    }

    private static void promise7RemoveNote() {
        BilingualSetter x = new BilingualSetter();
        x.insert(0, 5, 6);
        x.addNote(0, 0, 1, 1);
        x.addNote(0, 0, 2, 2);
        x.addNote(0, 0, 3, 3);
        x.addNote(0, 1, 3, 4);
        Due.are("removeNote's errors", new int[] {x.removeNote(2, 0), x.removeNote(-1, 0), x.removeNote(0, -1),
            x.removeNote(0, 3), x.removeNote(1, 1), x.removeNote(2, 9), x.removeNote(0, FAR)},
                INVALID, INVALID, INVALID, MISSING, MISSING, INVALID, MISSING);
        Due.is("removeNote(0, 1)", x.removeNote(0, 1), 2);
        Due.are("note 0", Ask.note(x, 0, 0), 0, 1, 1);
        Due.are("note 1", Ask.note(x, 0, 1), 0, 3, 3);
        Due.are("the other side", Ask.note(x, 1, 0), 0, 3, 4);
        Due.are("the last ones", new int[] {x.removeNote(0, 1), x.removeNote(0, 0), x.removeNote(0, 0)}, 1, 0, MISSING);
    }

    private static void promise8Set() {
        int[] low = {8, 0, 0, 1, 0, 0};
        int[] high = {60, 3, 2, 4, 5, 1};
        int[] initial = {20, 1, 1, 2, 3, 0};
        BilingualSetter x = new BilingualSetter();
        for (int what = 0; what < 6; what++) {
            Due.are("set(" + what + ", ..)", new int[] {x.set(what, low[what] - 1), x.set(what, high[what] + 1),
                x.set(what, low[what]), x.set(what, high[what]), x.set(what, high[what])},
                    INVALID, INVALID, initial[what], low[what], high[what]);
        }
        Due.are("no such setting", new int[] {x.set(-1, 1), x.set(6, 1), x.set(FAR, 1)}, INVALID, INVALID, INVALID);
    }

    private static void promise9Undo() {
        BilingualSetter x = new BilingualSetter();
        x.insert(0, 1, 2);
        x.insert(1, 3, 4);
        Due.is("undo of two", x.undo(), 1);
        Due.is("one pair", x.pairCount(), 1);
        for (int lines = 2; lines <= 8; lines++) {
            x.setLines(0, 0, lines);
        }
        Due.are("six states are kept", new int[] {x.undo(), x.undo(), x.undo(), x.undo(), x.undo(), x.undo(), x.undo()},
                5, 4, 3, 2, 1, 0, IMPOSSIBLE);
        Due.are("the oldest one is back", Ask.pair(x, 0), 2, 2, 0, 0);
        x.setLines(0, 1, 9);
        Due.is("undo after that", x.undo(), 0);
        Due.are("pair", Ask.pair(x, 0), 2, 2, 0, 0);
    }

    private static void promise9WhatIsAChange() {
        BilingualSetter x = new BilingualSetter();
        x.insert(0, 5, 6);
        x.addNote(0, 0, 3, 7);
        x.set(0, 8);
        x.insert(2, 1, 1);
        x.setLines(0, 0, 2);
        x.setFlag(0, 2, 1);
        x.removeNote(0, 5);
        x.spreadCount();
        x.leastHeight(1);
        x.overfullWith(60);
        Due.is("errors and questions are no changes", x.undo(), 2);
        Due.is("the height is back", x.set(0, 20), 20);
        Due.is("a change that makes nothing different is one", x.undo(), 2);
        x.removeNote(0, 0);
        x.setFlag(0, 1, 1);
        x.remove(0);
        Due.are("undo remove, setFlag, removeNote", new int[] {x.undo(), x.pairInfo(0, 3), x.undo(), x.pairInfo(0, 3),
            x.noteCount(0), x.undo(), x.noteCount(0)}, 4, 1, 3, 0, 0, 2, 1);
        Due.are("the note is back", Ask.note(x, 0, 0), 0, 3, 7);
        x.addNote(0, 1, 5, 3);
        x.addNote(0, 1, 0, 2);
        x.removeNote(1, 1);
        Due.are("undo on the right", new int[] {x.undo(), x.noteInfo(1, 1, 1), x.noteInfo(1, 0, 2), x.undo(),
            x.noteInfo(1, 0, 1), x.undo(), x.noteCount(1)}, 4, 5, 2, 3, 5, 2, 0);
        Due.are("undo addNote and insert", new int[] {x.undo(), x.noteCount(0), x.undo(), x.pairCount()}, 1, 0, 0, 0);
    }

    private static void promises10And11Pairs() {
        BilingualSetter x = new BilingualSetter();
        Due.is("no pairs", x.pairCount(), 0);
        Due.is("pairInfo of none", x.pairInfo(0, 0), INVALID);
        x.insert(0, 11, 12);
        x.insert(1, 13, 14);
        x.setFlag(1, 0, 1);
        x.setFlag(0, 1, 1);
        Due.is("two pairs", x.pairCount(), 2);
        Due.are("pair 0", Ask.pair(x, 0), 11, 12, 0, 1);
        Due.are("pair 1", Ask.pair(x, 1), 13, 14, 1, 0);
        Due.are("pairInfo out of range", new int[] {x.pairInfo(-1, 0), x.pairInfo(2, 0), x.pairInfo(0, -1), x.pairInfo(0, 4),
            x.pairInfo(FAR, FAR)}, INVALID, INVALID, INVALID, INVALID, INVALID);
    }

    private static void promises12And13Notes() {
        BilingualSetter x = new BilingualSetter();
        x.insert(0, 11, 12);
        x.addNote(0, 1, 11, 6);
        Due.are("noteCount", new int[] {x.noteCount(0), x.noteCount(1), x.noteCount(-1), x.noteCount(2)}, 0, 1, INVALID,
                INVALID);
        Due.are("the note", Ask.note(x, 1, 0), 0, 11, 6);
        Due.are("noteInfo's errors", new int[] {x.noteInfo(0, 0, 0), x.noteInfo(1, 1, 2), x.noteInfo(1, -1, 0),
            x.noteInfo(2, 0, 0), x.noteInfo(-1, 0, 0), x.noteInfo(1, 0, 3), x.noteInfo(1, 0, -1), x.noteInfo(1, 9, 3),
            x.noteInfo(1, FAR, 0)},
                MISSING, MISSING, INVALID, INVALID, INVALID, INVALID, INVALID, INVALID, MISSING);
    }
}
