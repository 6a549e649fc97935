/** Promises 10 and 11: transpose, select. */
public final class PickingTest {
    private static final Due due = new Due();

    public static void main(String[] args) {
        transpose();
        select();
        selectEdges();
        wrongArguments();
        due.end();
    }

    private static void transpose() {
        SemiringDesk x = Grid.write(new SemiringDesk(), 0, "1 . 0 / . -4 5");
        due.is("transpose counts", x.transpose(1, 0), 4);
        due.is("transpose", Grid.read(x, 1), "1 . / . -4 / 0 5");
        due.is("a is left alone", Grid.read(x, 0), "1 . 0 / . -4 5");
        due.is("transpose in place", x.transpose(0, 0), 4);
        due.is("transpose in place", Grid.read(x, 0), "1 . / . -4 / 0 5");
        due.is("transpose nothing", x.transpose(0, 5), 0);
        due.is("transpose nothing", Grid.read(x, 0), ".");
        x.shape(2, 1, 8);
        x.put(2, 0, 7, 3);
        x.transpose(2, 2);
        due.is("transpose 1 times 8", Grid.read(x, 2), ". / . / . / . / . / . / . / 3");
    }

    private static void picks(String from, int how, long limit, String want) {
        SemiringDesk x = Grid.write(new SemiringDesk(), 0, from);
        String call = "select " + how + " " + limit + " of " + from;
        int answer = x.select(1, 0, how, limit);
        due.is(call, Grid.read(x, 1), want);
        due.is(call + " counts", answer, x.size(1) / 256);
        due.is(call + " leaves a alone", Grid.read(x, 0), from);
        x.select(0, 0, how, limit);
        due.is(call + " in place", Grid.read(x, 0), want);
    }

    private static void select() {
        String from = "1 2 . / 0 -4 2 / 3 3 -1";
        picks(from, 0, 2, "1 . . / 0 -4 . / . . -1");
        picks(from, 1, 2, ". . . / . . . / 3 3 .");
        picks(from, 2, 0, ". 2 . / . . 2 / . . .");
        picks(from, 3, 0, ". . . / 0 . . / 3 3 .");
        picks(from, 4, 0, "1 . . / . -4 . / . . -1");
    }

    private static void selectEdges() {
        picks("0 1 / . .", 0, Long.MAX_VALUE, "0 1 / . .");
        picks("0 1 / . .", 1, Long.MIN_VALUE, "0 1 / . .");
        picks("0 1 / . .", 0, Long.MIN_VALUE, ". . / . .");
        picks("0 1 / . .", 1, Long.MAX_VALUE, ". . / . .");
        picks("1 2 3", 2, 0, ". 2 3");
        picks("1 / 2 / 3", 3, 0, ". / 2 / 3");
        picks("1 / 2 / 3", 4, 99, "1 / . / .");
    }

    private static void wrongArguments() {
        for (int wrong : new int[] {-1, 6, Integer.MIN_VALUE, Integer.MAX_VALUE}) {
            SemiringDesk x = Grid.write(new SemiringDesk(), 0, "1 2");
            refuses(x, "transpose to " + wrong, () -> x.transpose(wrong, 0));
            refuses(x, "transpose a " + wrong, () -> x.transpose(0, wrong));
            refuses(x, "select to " + wrong, () -> x.select(wrong, 0, 0, 0));
            refuses(x, "select a " + wrong, () -> x.select(0, wrong, 0, 0));
            refuses(x, "select how " + wrong, () -> x.select(0, 0, wrong, 0));
        }
        SemiringDesk y = Grid.write(new SemiringDesk(), 0, "1 2");
        refuses(y, "select how 5", () -> y.select(0, 0, 5, 0));
    }

    private static void refuses(SemiringDesk x, String call, Runnable action) {
        due.failsAndKeeps(IllegalArgumentException.class, x, call, action);
    }
}
