/** Answers of several calls that belong together. */
final class Ask {
    private Ask() {
    }

    /** All that pairInfo tells of a pair. */
    static int[] pair(BilingualSetter x, int pair) {
        int[] got = new int[4];
        for (int what = 0; what < got.length; what++) {
            got[what] = x.pairInfo(pair, what);
        }
        return got;
    }

    /** All that noteInfo tells of a note. */
    static int[] note(BilingualSetter x, int side, int note) {
        int[] got = new int[3];
        for (int what = 0; what < got.length; what++) {
            got[what] = x.noteInfo(side, note, what);
        }
        return got;
    }

    /** The lengths of the notes of a side, by which the tests tell them apart. */
    static int[] lengths(BilingualSetter x, int side) {
        return ofNotes(x, side, 2);
    }

    /** The pairs of the notes of a side. */
    static int[] pairsOfNotes(BilingualSetter x, int side) {
        return ofNotes(x, side, 0);
    }

    /** The lines of the notes of a side. */
    static int[] linesOfNotes(BilingualSetter x, int side) {
        return ofNotes(x, side, 1);
    }

    private static int[] ofNotes(BilingualSetter x, int side, int what) {
        int[] got = new int[x.noteCount(side)];
        for (int note = 0; note < got.length; note++) {
            got[note] = x.noteInfo(side, note, what);
        }
        return got;
    }

    /** All that segmentInfo tells of a segment. */
    static int[] segment(BilingualSetter x, int spread, int segment) {
        int[] got = new int[8];
        for (int what = 0; what < got.length; what++) {
            got[what] = x.segmentInfo(spread, segment, what);
        }
        return got;
    }

    /** The rows in which the segments of a page begin. */
    static int[] begins(BilingualSetter x, int spread, int side) {
        int[] got = new int[x.segmentCount(spread)];
        for (int segment = 0; segment < got.length; segment++) {
            got[segment] = x.segmentInfo(spread, segment, 5 + side);
        }
        return got;
    }

    /** The numbers of segments of all spreads. */
    static int[] segmentCounts(BilingualSetter x) {
        int[] got = new int[x.spreadCount()];
        for (int spread = 0; spread < got.length; spread++) {
            got[spread] = x.segmentCount(spread);
        }
        return got;
    }

    /** For all spreads whether they are overfull. */
    static int[] overfull(BilingualSetter x) {
        int[] got = new int[x.spreadCount()];
        for (int spread = 0; spread < got.length; spread++) {
            got[spread] = x.isOverfull(spread);
        }
        return got;
    }

    /** All that pageInfo tells of a page. */
    static int[] page(BilingualSetter x, int spread, int side) {
        int[] got = new int[6];
        for (int what = 0; what < got.length; what++) {
            got[what] = x.pageInfo(spread, side, what);
        }
        return got;
    }

    /** What the first rows of a page show. */
    static int[] shown(BilingualSetter x, int spread, int side, int rows) {
        int[] got = new int[rows];
        for (int row = 0; row < rows; row++) {
            got[row] = x.shown(spread, side, row);
        }
        return got;
    }

    /** The cost of the best division, then the first pairs of so many groups and of one more. */
    static int[] best(BilingualSetter x, int groups) {
        int[] got = new int[groups + 2];
        got[0] = x.bestCost();
        for (int group = 0; group <= groups; group++) {
            got[group + 1] = x.bestBreak(group);
        }
        return got;
    }
}
