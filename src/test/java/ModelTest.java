import java.util.function.IntSupplier;

/**
 * Runs of calls with arguments in and out of their ranges, made by a fixed arithmetic: the program
 * answers each as the model does. A run has 512 calls, and each kind of run its own kind of text.
 */
final class ModelTest {
    private static final int CALLS = 512;
    // Half of the runs ask for all that there is, in the calls that they keep for that.
    private static final int CALLS_BEFORE_ALL = 200;
    private static final int RUNS = 240;
    private static final int[] ODD = {Integer.MIN_VALUE, -101, -2, -1, 41, 61, 100, 101, 10000, Integer.MAX_VALUE};

    private long seed;
    private final BilingualSetter setter = new BilingualSetter();
    private final Model model = new Model();
    private final int kind;
    private int left;

    private ModelTest(int run) {
        seed = 977L * run + 13;
        kind = run % 8;
    }

    public static void main(String[] args) {
        for (int run = 0; run < RUNS && Due.wrong() < 20; run++) {
            new ModelTest(run).run(run);
        }
        Due.end("ModelTest");
    }

    private int pick(int bound) {
        seed = seed * 6364136223846793005L + 1442695040888963407L;
        return (int) ((seed >>> 33) % bound);
    }

    /** A number from low to high, now and then one beside them or far away. */
    private int in(int low, int high) {
        int way = pick(60);
        if (way == 0) {
            return ODD[pick(ODD.length)];
        }
        if (way == 1) {
            return pick(2) == 0 ? low - 1 : high + 1;
        }
        return high < low ? low : low + pick(high - low + 1);
    }

    private int lines() {
        return switch (kind % 4) {
            case 0 -> in(1, 30);
            case 1 -> in(1, 8);
            case 2 -> in(20, 30);
            default -> pick(3) == 0 ? in(1, 30) : in(1, 4);
        };
    }

    private int pair() {
        return in(0, model.pairCount() - 1);
    }

    private int line(int pair, int side) {
        return in(0, model.pairInfo(pair, side) - 1);
    }

    private int height() {
        return kind >= 4 ? in(8, 20) : in(8, 60);
    }

    private void run(int run) {
        int calls = run / 8 % 2 == 0 ? CALLS : CALLS_BEFORE_ALL;
        for (int call = 0; call < calls && Due.wrong() < 20; call++) {
            String name = "run " + run + ", call " + call + ": ";
            int way = pick(100);
            if (way < 45 || call < 60) {
                change(name, pick(20));
            } else {
                ask(name, pick(20));
            }
        }
        left = CALLS - calls;
        askAll("run " + run + ", at its end: ");
    }

    private void change(String name, int way) {
        int pair = pair();
        int side = in(0, 1);
        if (way < 5) {
            int at = in(0, model.pairCount());
            int left = lines();
            int right = lines();
            Due.is(name + "insert(" + at + ", " + left + ", " + right + ")",
                    setter.insert(at, left, right), model.insert(at, left, right));
        } else if (way < 6) {
            Due.is(name + "remove(" + pair + ")", setter.remove(pair), model.remove(pair));
        } else if (way < 8) {
            int lines = lines();
            Due.is(name + "setLines(" + pair + ", " + side + ", " + lines + ")",
                    setter.setLines(pair, side, lines), model.setLines(pair, side, lines));
        } else if (way < 9) {
            int on = in(0, 1);
            Due.is(name + "setFlag(" + pair + ", " + side + ", " + on + ")",
                    setter.setFlag(pair, side, on), model.setFlag(pair, side, on));
        } else if (way < 15) {
            int line = line(pair, side);
            int length = in(1, 10);
            Due.is(name + "addNote(" + pair + ", " + side + ", " + line + ", " + length + ")",
                    setter.addNote(pair, side, line, length), model.addNote(pair, side, line, length));
        } else if (way < 16) {
            int note = in(0, model.noteCount(side) - 1);
            Due.is(name + "removeNote(" + side + ", " + note + ")",
                    setter.removeNote(side, note), model.removeNote(side, note));
        } else if (way < 18) {
            int what = in(0, 5);
            int value = what == 0 ? height() : what == 1 ? in(0, 3) : what == 2 ? in(0, 2)
                    : what == 3 ? in(1, 4) : what == 4 ? in(0, 5) : in(0, 1);
            Due.is(name + "set(" + what + ", " + value + ")", setter.set(what, value), model.set(what, value));
        } else if (way < 19 && pick(4) == 0) {
            Due.is(name + "undo()", setter.undo(), model.undo());
        }
    }

    private void ask(String name, int way) {
        int pair = pair();
        int side = in(0, 1);
        int line = line(pair, side);
        int spread = in(0, model.spreadCount() - 1);
        int segment = in(0, model.segmentCount(spread));
        int what = in(0, 7);
        int row = in(0, pick(5) == 0 ? 99 : 30);
        int height = height();
        int note = in(0, model.noteCount(side));
        String at = name + "(" + pair + ", " + side + ", " + line + ") (" + spread + ", " + segment + ", " + what + ") ("
                + row + ", " + height + ", " + note + ") ";
        switch (way) {
            case 0 -> Due.is(at + "pairCount", setter.pairCount(), model.pairCount());
            case 1 -> Due.is(at + "pairInfo", setter.pairInfo(pair, what - 2), model.pairInfo(pair, what - 2));
            case 2 -> Due.is(at + "noteCount", setter.noteCount(side), model.noteCount(side));
            case 3 -> Due.is(at + "noteInfo", setter.noteInfo(side, note, what / 2), model.noteInfo(side, note, what / 2));
            case 4 -> Due.is(at + "spreadCount", setter.spreadCount(), model.spreadCount());
            case 5 -> Due.is(at + "segmentCount", setter.segmentCount(spread), model.segmentCount(spread));
            case 6, 7 -> Due.is(at + "segmentInfo",
                    setter.segmentInfo(spread, segment, what), model.segmentInfo(spread, segment, what));
            case 8, 9 -> Due.is(at + "pageInfo", setter.pageInfo(spread, side, what), model.pageInfo(spread, side, what));
            case 10 -> Due.is(at + "isOverfull", setter.isOverfull(spread), model.isOverfull(spread));
            case 11 -> Due.is(at + "spreadOf", setter.spreadOf(pair, side, line), model.spreadOf(pair, side, line));
            case 12 -> Due.is(at + "rowOf", setter.rowOf(pair, side, line), model.rowOf(pair, side, line));
            case 13 -> Due.is(at + "shown", setter.shown(spread, side, row), model.shown(spread, side, row));
            case 14 -> Due.is(at + "cost", setter.cost(), model.cost());
            case 15 -> Due.is(at + "bestCost", setter.bestCost(), model.bestCost());
            case 16 -> Due.is(at + "bestBreak", setter.bestBreak(segment), model.bestBreak(segment));
            case 17 -> Due.is(at + "leastHeight", setter.leastHeight(note), model.leastHeight(note));
            case 18 -> Due.is(at + "overfullWith", setter.overfullWith(height), model.overfullWith(height));
            default -> Due.is(at + "splitPairs", setter.splitPairs(), model.splitPairs());
        }
    }

    private void askAll(String name) {
        int spreads = model.spreadCount();
        is(name + "spreadCount", setter::spreadCount, model::spreadCount);
        for (int n = -1; n <= model.pairCount(); n++) {
            int group = n;
            is(name + "bestBreak(" + group + ")", () -> setter.bestBreak(group), () -> model.bestBreak(group));
        }
        for (int n = 0; n <= 41; n += 4) {
            int most = n;
            is(name + "leastHeight(" + most + ")", () -> setter.leastHeight(most), () -> model.leastHeight(most));
        }
        // The last spreads are asked first: what went wrong before shows in them as well.
        for (int spread = spreads; spread >= -1 && left > 0; spread--) {
            askPage(name, spread, 0);
            askPage(name, spread, 1);
        }
    }

    private void askPage(String name, int spread, int side) {
        for (int n = 0; n <= 5; n++) {
            int what = n;
            is(name + "pageInfo(" + spread + ", " + side + ", " + what + ")",
                    () -> setter.pageInfo(spread, side, what), () -> model.pageInfo(spread, side, what));
        }
        for (int n = -1; n <= model.height() + 5; n++) {
            int row = n;
            is(name + "shown(" + spread + ", " + side + ", " + row + ")",
                    () -> setter.shown(spread, side, row), () -> model.shown(spread, side, row));
        }
    }

    /** Compares, if a call is left. */
    private void is(String call, IntSupplier got, IntSupplier due) {
        if (left > 0) {
            left--;
            Due.is(call, got.getAsInt(), due.getAsInt());
        }
    }
}
