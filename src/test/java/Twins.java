import java.util.List;

/**
 * Objects made by the same calls. One of two gets a call more that may change nothing: behind it
 * both answer the same, and they still do when their history is undone step by step.
 */
final class Twins {
    /** A call of an object. */
    interface Call {
        int on(BilingualSetter setter);
    }

    /** A call of an object, with one argument that is tried out. */
    interface CallWith {
        int on(BilingualSetter setter, int argument);
    }

    private static final int CALLS = 512;
    private static final int INVALID = -1;

    private final Call[] making;

    Twins(Call... making) {
        this.making = making;
    }

    BilingualSetter make() {
        BilingualSetter setter = new BilingualSetter();
        for (Call call : making) {
            call.on(setter);
        }
        return setter;
    }

    /** The call answers what is due, and the object answers behind it as if it had not been made. */
    void unchanged(String name, int due, Call call) {
        for (int undos = 0; undos <= 7; undos++) {
            unchanged(name, due, call, undos, false);
            unchanged(name, due, call, undos, true);
        }
    }

    private void unchanged(String name, int due, Call call, int undos, boolean isAsked) {
        BilingualSetter one = make();
        BilingualSetter other = make();
        if (isAsked) {
            // What has been worked out before the call is still right behind it.
            Due.is(name + ", cost() before it", one.cost(), other.cost());
            Due.is(name + ", bestCost() before it", one.bestCost(), other.bestCost());
        }
        Due.is(name, call.on(one), due);
        for (int undo = 0; undo < undos; undo++) {
            Due.is(name + ", undo() behind it", one.undo(), other.undo());
        }
        same(name + ", behind it and " + undos + " undos", one, other, CALLS - making.length - 4 - undos);
    }

    private static void same(String when, BilingualSetter one, BilingualSetter other, int calls) {
        List<String> answers = Answers.of(one, calls);
        List<String> due = Answers.of(other, calls);
        Due.is(when + ", number of answers", answers.size(), due.size());
        for (int n = 0; n < answers.size() && n < due.size(); n++) {
            Due.same(when, answers.get(n), due.get(n));
        }
    }

    /** The call is a change, and undo leaves so many states and an object as if neither had been. */
    void undone(String name, int states, Call change) {
        unchanged(name + " and undo()", states, x -> change.on(x) < 0 ? INVALID : x.undo());
    }

    /** The values from low to high are allowed; those beside them are invalid and change nothing. */
    void range(String name, int low, int high, CallWith call) {
        allowed(name, low, call);
        allowed(name, high, call);
        for (int value : new int[] {low - 1, high + 1, Integer.MIN_VALUE, Integer.MAX_VALUE}) {
            refused(name, value, call);
        }
    }

    /** Every value from 0 on is allowed, none below it. */
    void fromZero(String name, CallWith call) {
        allowed(name, 0, call);
        allowed(name, Integer.MAX_VALUE, call);
        refused(name, -1, call);
        refused(name, Integer.MIN_VALUE, call);
    }

    /** There is no value that is allowed. */
    void none(String name, CallWith call) {
        for (int value : new int[] {-1, 0, 1, Integer.MIN_VALUE, Integer.MAX_VALUE}) {
            refused(name, value, call);
        }
    }

    private void allowed(String name, int value, CallWith call) {
        Due.is(name + " " + value + " is invalid", call.on(make(), value) == INVALID ? 1 : 0, 0);
    }

    private void refused(String name, int value, CallWith call) {
        unchanged(name + " " + value, INVALID, x -> call.on(x, value));
    }
}
