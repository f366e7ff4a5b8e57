import java.util.concurrent.Callable;

/** Counts checks, prints those whose answer is not the one that is due, and ends the test. */
final class Checks {
    static final String INDEX = "throws.IndexOutOfBoundsException";
    static final String ARGUMENT = "throws.IllegalArgumentException";
    static final String STATE = "throws.IllegalStateException";
    static final int LOWEST = Integer.MIN_VALUE;
    static final int HIGHEST = Integer.MAX_VALUE;

    private int made = 0;
    private int wrong = 0;

    /** An answer as a text; "throws.IllegalStateException", if the call throws that. */
    static String answerOf(Callable<?> call) {
        try {
            return String.valueOf(call.call());
        } catch (Exception e) {
            return "throws." + e.getClass().getSimpleName();
        }
    }

    /**
     * Numbers outside the range, the first ones on both sides among them. Those that are 32 or 256 away would be
     * taken for one inside by a shift or a cast that nobody guards.
     */
    static int[] outside(int first, int last) {
        return new int[] {first - 1, last + 1, first - 32, last + 32, first - 256, last + 256, last + 65536,
            LOWEST, LOWEST + first, LOWEST + last, HIGHEST};
    }

    void due(String what, Callable<?> call, Object want) {
        same(what, answerOf(call), String.valueOf(want));
    }

    void same(String what, String got, String want) {
        made++;
        if (!got.equals(want)) {
            wrong++;
            System.out.println(what + " answered " + got + ", due is " + want);
        }
    }

    boolean anyWrong() {
        return wrong > 0;
    }

    void end() {
        System.out.println(made + " checks, " + wrong + " wrong");
        System.exit(wrong == 0 && made > 0 ? 0 : 1);
    }
}
