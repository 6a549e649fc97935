import java.util.function.LongSupplier;

/** All promises: long runs of mixed calls, right and wrong ones, against the Model. */
public final class ModelTest {
    private static final int DESKS = 6000;
    // With the reading of all places at the end a desk stays below its 512 calls.
    private static final int CALLS = 120;
    private static final int KINDS = 15;
    private static final int[] PARAMETERS = {3, 3, 3, 3, 1, 6, 4, 4, 2, 3, 2, 3, 2, 1, 2};
    private static final String[] NAMES = {
        "shape", "put", "drop", "at", "size", "multiply", "add", "each", "transpose", "select", "reduce",
        "levels", "paths", "triangles", "components",
    };
    private static final long[] LARGE = {
        1_000_000_000_000L, 999_999_999_999L, 500_000_000_000L, 1_000_000_000L, 1_000_000L, 999_999L,
        1_000_001L, 1_000_000_001L, 1_000_000_000_001L, Long.MAX_VALUE,
    };

    private static final Due due = new Due();
    private static final int[] answered = new int[KINDS];
    private static long seed = 20261115;

    public static void main(String[] args) {
        for (int d = 0; d < DESKS; d++) {
            run(d);
        }
        for (int kind = 0; kind < KINDS; kind++) {
            due.is("enough of " + NAMES[kind] + " were answered", answered[kind] > DESKS, true);
        }
        due.end();
    }

    private static void run(int number) {
        SemiringDesk desk = new SemiringDesk();
        Model model = new Model();
        // Most runs keep to one small side, so that shapes fit one another often.
        int side = 1 + below(number % 4 == 0 ? 8 : 4);
        int largeIn = number % 3 == 0 ? 4 : 40;
        StringBuilder story = new StringBuilder();
        for (int c = 0; c < CALLS; c++) {
            int kind = kind(c);
            int[] n = numbers(kind, side);
            long v = value(largeIn);
            String want = outcome(() -> model.call(kind, n, v));
            String call = text(kind, n, v);
            String got = Call.outcome(desk, call);
            story.append(call).append(" = ").append(want).append('\n');
            due.is("desk " + number + " call " + c + " " + call, got, want);
            if (!got.equals(want)) {
                System.out.println(story);
                return;
            }
            answered[kind] += Character.isLetter(got.charAt(0)) ? 0 : 1;
        }
        due.is("desk " + number + " at its end", Grid.readAll(desk), model.text());
    }

    private static int kind(int c) {
        if (c < 6) {
            return 0;
        }
        return c < 40 || below(3) == 0 ? 1 : below(40) == 0 ? 0 : 2 + below(KINDS - 2);
    }

    private static int[] numbers(int kind, int side) {
        int[] n = new int[6];
        for (int p = 0; p < 6; p++) {
            n[p] = below(120) == 0 ? 6 - 8 * below(2) : below(6);
        }
        if (kind == 0) {
            n[1] = below(8) == 0 ? below(10) : side;
            n[2] = below(8) == 0 ? below(10) : side;
        } else if (kind <= 3) {
            n[1] = below(50) == 0 ? below(10) - 1 : below(side);
            n[2] = below(50) == 0 ? below(10) - 1 : below(side);
        } else if (kind == 5) {
            n[3] = semiring();
            n[4] = below(2) == 0 ? -1 : n[4];
            n[5] = below(60) == 0 ? 9 * below(2) - 5 : below(4);
        } else if (kind == 6 || kind == 7) {
            n[3] = semiring();
        } else if (kind == 10) {
            n[1] = semiring();
        } else if (kind == 11) {
            n[2] = below(20) == 0 ? below(10) - 1 : below(side);
        }
        return n;
    }

    private static int semiring() {
        return below(60) == 0 ? 5 * below(2) - 1 : below(4);
    }

    private static long value(int largeIn) {
        if (below(largeIn) == 0) {
            long large = LARGE[below(LARGE.length)];
            return below(2) == 0 ? large : -large;
        }
        return below(5) == 0 ? below(9) - 4 : below(20);
    }

    private static String text(int kind, int[] n, long v) {
        StringBuilder text = new StringBuilder(NAMES[kind]);
        for (int p = 0; p < PARAMETERS[kind]; p++) {
            text.append(' ').append(n[p]);
        }
        if (NAMES[kind].equals("put") || NAMES[kind].equals("select")) {
            text.append(' ').append(v);
        }
        return text.toString();
    }

    private static String outcome(LongSupplier call) {
        try {
            return String.valueOf(call.getAsLong());
        } catch (RuntimeException e) {
            return e.getClass().getName();
        }
    }

    /** The same numbers in every run: a test that fails must fail again. */
    private static int below(int bound) {
        seed = seed * 6364136223846793005L + 1442695040888963407L;
        return (int) ((seed >>> 33) % bound);
    }
}
