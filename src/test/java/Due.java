/** Counts the answers that are not the ones that are due, and ends a test accordingly. */
final class Due {
    private int wrong;

    void is(String call, long got, long want) {
        if (got != want) {
            tell(call + " answered " + got + ", due is " + want);
        }
    }

    void is(String call, boolean got, boolean want) {
        is(call, got ? 1 : 0, want ? 1 : 0);
    }

    void is(String call, String got, String want) {
        if (!got.equals(want)) {
            tell(call + " answered " + got + ", due is " + want);
        }
    }

    void fails(Class<? extends RuntimeException> want, String call, Runnable action) {
        is(call, outcome(action), want.getName());
    }

    /** As fails, and the whole desk must be as it was before. */
    void failsAndKeeps(Class<? extends RuntimeException> want, SemiringDesk desk, String call, Runnable action) {
        String before = Grid.readAll(desk);
        fails(want, call, action);
        is("the desk after " + call, Grid.readAll(desk), before);
    }

    void end() {
        if (wrong != 0) {
            System.out.println(wrong + " answers are not as due");
            System.exit(1);
        }
    }

    private static String outcome(Runnable action) {
        try {
            action.run();
            return "nothing thrown";
        } catch (RuntimeException e) {
            return e.getClass().getName();
        }
    }

    private void tell(String text) {
        wrong++;
        System.out.println(text);
    }
}
