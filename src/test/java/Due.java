/** Compares answers with those that are due, and ends a test's program. */
final class Due {
    private static int right = 0;
    private static int wrong = 0;

    private Due() {
    }

    static void is(String call, long got, long due) {
        if (got == due) {
            right++;
        } else {
            wrong++;
            System.out.println(call + " answered " + got + ", due is " + due);
        }
    }

    /** Answers that are told as texts. */
    static void same(String when, String got, String due) {
        if (got.equals(due)) {
            right++;
        } else {
            wrong++;
            System.out.println(when + ": " + got + ", due is " + due);
        }
    }

    /** Answers of several calls, which are told together. */
    static void are(String calls, int[] got, int... due) {
        is(calls + ", number of answers", got.length, due.length);
        for (int n = 0; n < got.length && n < due.length; n++) {
            is(calls + ", answer " + n, got[n], due[n]);
        }
    }

    static int wrong() {
        return wrong;
    }

    static void end(String test) {
        System.out.println(test + ": " + right + " answers are as due, " + wrong + " are not");
        if (wrong != 0) {
            System.exit(1);
        }
    }
}
