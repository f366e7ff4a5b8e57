import java.util.concurrent.Callable;

/** Counts checks, prints those whose answer is not the one that is due, and ends the test. */
final class Checks {
    private int made = 0;
    private int wrong = 0;

    /** An answer as a text; "throws.IllegalStateException", if the call throws that. */
    static String answerOf(Callable<?> call) {
        try {
            return String.valueOf(call.call());
        } catch (Exception e) {
            return "throws." + e.getClass().getSimpleName();
        }
    }

    void due(String what, Callable<?> call, Object want) {
        same(what, answerOf(call), String.valueOf(want));
    }

    void same(String what, String got, String want) {
        made++;
        if (!got.equals(want)) {
            wrong++;
            System.out.println(what + " answered " + got + ", due is " + want);
        }
    }

    boolean anyWrong() {
        return wrong > 0;
    }

    void end() {
        System.out.println(made + " checks, " + wrong + " wrong");
        System.exit(wrong == 0 && made > 0 ? 0 : 1);
    }
}
