import java.util.concurrent.Callable;

/** Counts and tells what is not as due. */
final class Check {
    private int right;
    private int wrong;
    private int sentences;
    private String about = "";

    /** The test of one sentence of the document: what it finds is told under that sentence. */
    void sentence(String sentence, Act test) {
        about = "[" + sentence + "] ";
        sentences++;
        try {
            test.act();
        } catch (RuntimeException e) {
            wrong++;
            System.out.println(about + "the test ended with " + e);
        }
        about = "";
    }

    void due(String what, long got, long want) {
        if (got == want) {
            right++;
        } else {
            wrong++;
            System.out.println(about + what + " answered " + got + ", due is " + want);
        }
    }

    void due(String what, boolean got, boolean want) {
        due(what, got ? 1 : 0, want ? 1 : 0);
    }

    void due(String what, String got, String want) {
        due(what + " '" + got + "' against '" + want + "'", got.equals(want), true);
    }

    /** The call must throw this very exception, and no class above or below it. */
    void refused(String what, Class<? extends RuntimeException> want, Callable<?> call) {
        String got = "nothing";
        try {
            call.call();
        } catch (Exception e) {
            got = e.getClass().getSimpleName();
        }
        due(what + " throws", got, want.getSimpleName());
    }

    interface Act {
        void act();
    }

    void refusedAct(String what, Class<? extends RuntimeException> want, Act act) {
        refused(what, want, () -> {
            act.act();
            return null;
        });
    }

    void finish(String name) {
        String of = sentences > 0 ? " (tests of " + sentences + " sentences)" : "";
        System.out.println(name + ": " + right + " as due, " + wrong + " not" + of);
        System.exit(wrong == 0 ? 0 : 1);
    }
}
