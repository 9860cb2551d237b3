import java.util.ArrayList;
import java.util.List;
import java.util.function.IntSupplier;

/** All that an object tells of itself, in so many calls as are left to it. */
final class Answers {
    // The settings are asked last, as only a change tells them.
    private static final int[] SETTINGS = {20, 1, 1, 2, 3, 0};

    private final BilingualSetter setter;
    private final List<String> told = new ArrayList<>();
    private int left;
    private int pairs;

    private Answers(BilingualSetter setter, int calls) {
        this.setter = setter;
        left = calls - SETTINGS.length;
    }

    static List<String> of(BilingualSetter setter, int calls) {
        Answers answers = new Answers(setter, calls);
        answers.text();
        answers.searches();
        answers.spreads();
        answers.lines();
        answers.left = SETTINGS.length;
        for (int what = 0; what < SETTINGS.length; what++) {
            int setting = what;
            answers.tell("set(" + what + ", ..)", () -> setter.set(setting, SETTINGS[setting]));
        }
        return answers.told;
    }

    private int tell(String name, IntSupplier call) {
        if (left <= 0) {
            return 0;
        }
        left--;
        int answer = call.getAsInt();
        told.add(name + " = " + answer);
        return answer;
    }

    private void text() {
        pairs = tell("pairCount()", setter::pairCount);
        for (int n = 0; n < 4 * pairs; n++) {
            int pair = n / 4;
            int what = n % 4;
            tell("pairInfo(" + pair + ", " + what + ")", () -> setter.pairInfo(pair, what));
        }
        for (int s = 0; s < 2; s++) {
            int side = s;
            int notes = tell("noteCount(" + side + ")", () -> setter.noteCount(side));
            for (int n = 0; n < 3 * notes; n++) {
                int note = n / 3;
                int what = n % 3;
                tell("noteInfo(" + side + ", " + note + ", " + what + ")", () -> setter.noteInfo(side, note, what));
            }
        }
    }

    private void searches() {
        tell("cost()", setter::cost);
        tell("bestCost()", setter::bestCost);
        for (int n = 0; n < 4; n++) {
            int group = n;
            tell("bestBreak(" + group + ")", () -> setter.bestBreak(group));
            tell("leastHeight(" + (group + 1) + ")", () -> setter.leastHeight(group + 1));
            tell("overfullWith(" + (8 + group) + ")", () -> setter.overfullWith(8 + group));
        }
        tell("splitPairs()", setter::splitPairs);
    }

    private void spreads() {
        int spreads = tell("spreadCount()", setter::spreadCount);
        for (int s = 0; s < spreads; s++) {
            int spread = s;
            tell("isOverfull(" + spread + ")", () -> setter.isOverfull(spread));
            for (int n = 0; n < 12; n++) {
                int side = n / 6;
                int what = n % 6;
                tell("pageInfo(" + spread + ", " + side + ", " + what + ")", () -> setter.pageInfo(spread, side, what));
            }
            int segments = tell("segmentCount(" + spread + ")", () -> setter.segmentCount(spread));
            for (int n = 0; n < 8 * segments; n++) {
                int segment = n / 8;
                int what = n % 8;
                tell("segmentInfo(" + spread + ", " + segment + ", " + what + ")",
                        () -> setter.segmentInfo(spread, segment, what));
            }
        }
    }

    private void lines() {
        for (int n = 0; n < pairs; n++) {
            int pair = n;
            tell("spreadOf(" + pair + ", 0, 0)", () -> setter.spreadOf(pair, 0, 0));
            tell("rowOf(" + pair + ", 1, 0)", () -> setter.rowOf(pair, 1, 0));
        }
        for (int n = 0; n < 60; n++) {
            int spread = n / 30;
            int side = n / 15 % 2;
            int row = n % 15;
            tell("shown(" + spread + ", " + side + ", " + row + ")", () -> setter.shown(spread, side, row));
        }
    }
}
