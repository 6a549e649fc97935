import java.util.Arrays;

/**
 * What the registers hold before a call. Every call is done on a desk of its own, and all six
 * registers are read after it: so a register that should have been left alone is seen, and no
 * desk comes near its 512 calls.
 */
final class Scene {
    private final Due due;
    private final String[] before = new String[6];

    /** The registers from 0 on; those not given are as in a new object. */
    Scene(Due due, String... texts) {
        this.due = due;
        Arrays.fill(before, ".");
        System.arraycopy(texts, 0, before, 0, texts.length);
    }

    SemiringDesk desk() {
        SemiringDesk desk = new SemiringDesk();
        for (int r = 0; r < 6; r++) {
            if (!before[r].equals(".")) {
                Grid.write(desk, r, before[r]);
            }
        }
        return desk;
    }

    /** The call answers this and leaves all registers as they were. */
    void answers(String call, long want) {
        check(call, String.valueOf(want), before);
    }

    /** The call answers this; the register to holds the text then, the others what they held. */
    void gives(String call, long want, int to, String text) {
        String[] after = before.clone();
        after[to] = text;
        check(call, String.valueOf(want), after);
    }

    /** The call throws this and leaves all registers as they were. */
    void refuses(Class<? extends RuntimeException> want, String call) {
        check(call, want.getName(), before);
    }

    private void check(String call, String want, String[] after) {
        SemiringDesk desk = desk();
        String told = call + " on " + String.join(" | ", before);
        due.is(told, Call.outcome(desk, call), want);
        due.is("the registers after " + told, Grid.readAll(desk), String.join(" | ", after));
    }
}
