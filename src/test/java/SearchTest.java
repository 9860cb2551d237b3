/** The promises 23 to 26: best divisions and other heights, worked out by hand. */
final class SearchTest {
    private static final int INVALID = -1;
    private static final int MISSING = -4;

    private SearchTest() {
    }

    public static void main(String[] args) {
        bestDivision();
        equalDivisions();
        breaksAndNotes();
        noDivision();
        alignedDivision();
        leastHeight();
        leastHeightIsNoBisection();
        overfullWith();
        Due.end("SearchTest");
    }

    /** An edition of pairs with as many left as right lines, without a gap. */
    private static BilingualSetter withLines(int height, int... lines) {
        BilingualSetter x = new BilingualSetter();
        x.set(0, height);
        x.set(1, 0);
        for (int pair = 0; pair < lines.length; pair++) {
            x.insert(pair, lines[pair], lines[pair]);
        }
        return x;
    }

    private static void bestDivision() {
        BilingualSetter x = withLines(8, 3, 3, 3);
        Due.are("one and six", Ask.best(x, 2), 2 * 4, 0, 2, MISSING);
        x.set(1, 3);
        Due.are("a gap of 3 parts all", Ask.best(x, 3), 4 * 25, 0, 1, 2, MISSING);
        x = withLines(10, 5, 4, 4, 6, 3);
        // 5+4 | 4+6 | 3 has blanks 1, 0; 5 | 4+4 | 6+3 has 5, 2.
        Due.are("both sides alike", Ask.best(x, 3), 2, 0, 2, 4, MISSING);
        x.setLines(0, 1, 8);
        // Now the right side of 5 and 8 | 4 can't stand together: 2 and 5 | 2 and 2 | last.
        Due.are("the right side is longer", Ask.best(x, 3), 4 + 25 + 4 + 4, 0, 1, 3, MISSING);
        Due.are("bestBreak's errors", new int[] {x.bestBreak(-1), x.bestBreak(Integer.MIN_VALUE), x.bestBreak(3),
            x.bestBreak(Integer.MAX_VALUE)}, INVALID, INVALID, MISSING, MISSING);
        x = withLines(20, 20);
        Due.are("one pair that fills a page", Ask.best(x, 1), 0, 0, MISSING);
        x = new BilingualSetter();
        Due.are("no pairs", Ask.best(x, 0), 0, MISSING);
        Due.is("no pairs, negative group", x.bestBreak(-1), INVALID);
    }

    private static void equalDivisions() {
        BilingualSetter x = withLines(8, 3, 3, 3, 8);
        Due.are("the longer first group", Ask.best(x, 3), 2 * 4 + 2 * 25, 0, 2, 3, MISSING);
        x = withLines(8, 8, 3, 3, 3, 8);
        Due.are("the longer second group", Ask.best(x, 4), 2 * 4 + 2 * 25, 0, 1, 3, 4, MISSING);
        x = withLines(8, 4, 4, 4);
        Due.are("the last group costs nothing", Ask.best(x, 2), 0, 0, 2, MISSING);
        x = withLines(60, 1, 1, 1);
        Due.are("all in one group", Ask.best(x, 1), 0, 0, MISSING);
    }

    private static void breaksAndNotes() {
        BilingualSetter x = withLines(8, 2, 2, 2);
        x.setFlag(0, 1, 1);
        Due.are("a break before the first pair", Ask.best(x, 1), 0, 0, MISSING);
        x.setFlag(1, 1, 1);
        Due.are("a break", Ask.best(x, 2), 2 * 36, 0, 1, MISSING);
        x.addNote(0, 1, 0, 4);
        Due.are("a note fills rows", Ask.best(x, 2), 36 + 1, 0, 1, MISSING);
        x.setFlag(1, 1, 0);
        Due.are("without the break", Ask.best(x, 2), 36 + 1, 0, 1, MISSING);
        x.removeNote(1, 0);
        x.addNote(1, 0, 0, 2);
        // 2+2 | 2 has 1 and 4 blank rows; 2 | 2+2 has 6 and 6.
        Due.are("a note of the second pair", Ask.best(x, 2), 1 + 16, 0, 2, MISSING);
        x.undo();
        Due.is("bestBreak first after a change", x.bestBreak(1), MISSING);
        Due.are("undo", Ask.best(x, 1), 0, 0, MISSING);
        x.set(1, 3);
        Due.are("a gap of 3", Ask.best(x, 2), 1 + 1, 0, 2, MISSING);
        x.remove(2);
        x.remove(1);
        Due.are("fewer pairs", Ask.best(x, 1), 0, 0, MISSING);
    }

    private static void noDivision() {
        BilingualSetter x = withLines(8, 4, 9);
        Due.are("a pair that does not fit", Ask.best(x, 0), MISSING, MISSING);
        Due.is("its negative group", x.bestBreak(-1), INVALID);
        Due.is("though the spreads are not overfull", x.isOverfull(0), 0);
        x = withLines(8, 3, 4);
        x.addNote(0, 0, 0, 5);
        Due.are("a note that must be carried", Ask.best(x, 0), MISSING, MISSING);
        // 3 and 2 of the 4 lines leave 1 + 2 rows for the note.
        Due.is("the spreads carry it", x.pageInfo(0, 0, 4), 3);
        x.setLines(0, 0, 2);
        Due.are("a row less", Ask.best(x, 2), 25, 0, 1, MISSING);
    }

    private static void alignedDivision() {
        BilingualSetter x = new BilingualSetter();
        x.set(0, 8);
        x.insert(0, 5, 1);
        x.insert(1, 1, 5);
        x.insert(2, 1, 1);
        Due.are("not aligned", Ask.best(x, 2), 1 + 1, 0, 2, MISSING);
        x.set(5, 1);
        // 5+5 rows are too many; 6..11 for the second pair: it stands with the third one, 5 + 1 + 1.
        Due.are("aligned", Ask.best(x, 2), 9 + 49, 0, 1, MISSING);
    }

    private static void leastHeight() {
        BilingualSetter x = withLines(20, 10);
        Due.are("one pair", new int[] {x.leastHeight(1), x.leastHeight(2), x.leastHeight(40)}, 10, 8, 8);
        Due.are("out of range", new int[] {x.leastHeight(0), x.leastHeight(-1), x.leastHeight(41)}, INVALID, INVALID, INVALID);
        x.insert(1, 30, 30);
        x.insert(2, 20, 20);
        Due.are("three pairs", new int[] {x.leastHeight(1), x.leastHeight(2), x.leastHeight(3)}, 60, 30, 20);
        x.insert(3, 1, 1);
        Due.are("61 rows", new int[] {x.leastHeight(1), x.leastHeight(2)}, MISSING, 31);
        x.set(1, 1);
        Due.is("with gaps", x.leastHeight(2), 32);
        x.setFlag(1, 1, 1);
        x.setFlag(2, 1, 1);
        Due.is("with breaks", x.leastHeight(2), MISSING);
        x = new BilingualSetter();
        x.insert(0, 30, 30);
        x.setFlag(0, 0, 1);
        Due.is("an overfull spread is one as well", x.leastHeight(1), 8);
        Due.is("the height is as before", x.set(0, 9), 20);
    }

    private static void leastHeightIsNoBisection() {
        BilingualSetter x = withLines(20, 12);
        x.set(3, 4);
        x.setLines(0, 1, 7);
        // 7 right lines can't be split by 4: one overfull spread up to 11 rows, and one spread from 12 on.
        Due.is("one spread with every height", x.leastHeight(1), 8);
        x.setLines(0, 0, 10);
        x.insert(0, 9, 8);
        // With 8 rows the first pair is split: 5 + 4 and the other one; with 9 rows both are whole, or overfull.
        Due.are("pairs that split or not", new int[] {x.leastHeight(1), x.leastHeight(2), x.leastHeight(3)}, 19, 9, 8);
    }

    private static void overfullWith() {
        BilingualSetter x = withLines(20, 10, 20, 30);
        for (int pair = 0; pair < 3; pair++) {
            x.setFlag(pair, 0, 1);
        }
        Due.are("kept pairs", new int[] {x.overfullWith(8), x.overfullWith(9), x.overfullWith(10), x.overfullWith(20),
            x.overfullWith(29), x.overfullWith(30), x.overfullWith(60)}, 3, 3, 2, 1, 1, 0, 0);
        Due.are("out of range", new int[] {x.overfullWith(7), x.overfullWith(61), x.overfullWith(0), x.overfullWith(-8)},
                INVALID, INVALID, INVALID, INVALID);
        x.setFlag(2, 0, 0);
        Due.is("a pair that can be split", x.overfullWith(8), 2);
        Due.are("the spreads are as before", new int[] {x.spreadCount(), x.isOverfull(1), x.set(0, 9)}, 4, 0, 20);
    }
}
