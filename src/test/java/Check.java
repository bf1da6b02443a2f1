import java.util.concurrent.Callable;

/** Counts and tells what is not as due. */
final class Check {
    private int right;
    private int wrong;

    void due(String what, long got, long want) {
        if (got == want) {
            right++;
        } else {
            wrong++;
            System.out.println(what + " answered " + got + ", due is " + want);
        }
    }

    void due(String what, boolean got, boolean want) {
        due(what, got ? 1 : 0, want ? 1 : 0);
    }

    void due(String what, String got, String want) {
        due(what + " '" + got + "' against '" + want + "'", got.equals(want), true);
    }

    /** The call must throw this very exception, and no class above or below it. */
    void refused(String what, Class<? extends RuntimeException> want, Callable<?> call) {
        String got = "nothing";
        try {
            call.call();
        } catch (Exception e) {
            got = e.getClass().getSimpleName();
        }
        due(what + " throws", got, want.getSimpleName());
    }

    interface Act {
        void act();
    }

    void refusedAct(String what, Class<? extends RuntimeException> want, Act act) {
        refused(what, want, () -> {
            act.act();
            return null;
        });
    }

    void finish(String name) {
        System.out.println(name + ": " + right + " as due, " + wrong + " not");
        System.exit(wrong == 0 ? 0 : 1);
    }
}
