import java.util.function.ToIntFunction;

/** Counts the answers of one test class that are as due and those that are not. */
final class Due {
    static final int BAD = -1, NO = -2, FULL = -3, NONE = -4;

    private final String name;
    private int passed = 0;
    private int failed = 0;

    Due(String name) {
        this.name = name;
    }

    void is(String call, long got, long want) {
        if (got == want) {
            passed++;
        } else {
            failed++;
            System.out.println(name + ": " + call + " answered " + got + ", due is " + want);
        }
    }

    /** A row of answers, so that a whole course of days stands in one line of a test. */
    void are(String calls, int[] got, int... want) {
        for (int k = 0; k < Math.max(got.length, want.length); k++) {
            is(calls + " [" + k + "]", k < got.length ? got[k] : Long.MIN_VALUE, k < want.length ? want[k] : Long.MAX_VALUE);
        }
    }

    void same(String what, String got, String want) {
        is(what, got.equals(want) ? 1 : 0, 1);
    }

    /** A call that is refused: it answers so, and nothing is another then. */
    void refused(String call, Run x, ToIntFunction<Run> made, int want) {
        String before = x.whole();
        is(call, made.applyAsInt(x), want);
        same(call + " changes nothing", x.whole(), before);
    }

    boolean hasFailed() {
        return failed > 0;
    }

    void end() {
        System.out.println(name + ": " + passed + " passed, " + failed + " failed");
        if (failed > 0) {
            System.exit(1);
        }
    }
}
