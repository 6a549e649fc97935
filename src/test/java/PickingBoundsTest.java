import java.util.NoSuchElementException;

/** Promises 10 to 12: each sentence that names a boundary, from both sides. */
public final class PickingBoundsTest {
    private static final Class<IllegalArgumentException> ARGUMENT = IllegalArgumentException.class;
    private static final Class<UnsupportedOperationException> RANGE = UnsupportedOperationException.class;
    private static final Class<NoSuchElementException> NONE = NoSuchElementException.class;
    private static final String MOST = "1000000000000";
    private static final Due due = new Due();

    public static void main(String[] args) {
        rowsAndColumnsChange();
        valueLessOrGreater();
        valueAgainstAnyLong();
        aboveBelowOrOnTheDiagonal();
        howIsThatOrNot();
        sumOfOneEntry();
        sumsThatAreZero();
        noEntryAtAll();
        rowByRow();
        rangeOfReduce();
        due.end();
    }

    // Promise 10, "Rows and columns change places."
    private static void rowsAndColumnsChange() {
        Scene s = new Scene(due, ". 1 . 2 . . . 3", Grid.even(8, 7, "."), "1 2 / . 0", ".");
        s.gives("transpose 5 0", 3, 5, ". / 1 / . / 2 / . / . / . / 3");
        s.gives("transpose 0 0", 3, 0, ". / 1 / . / 2 / . / . / . / 3");
        s.gives("transpose 5 1", 0, 5, Grid.even(7, 8, "."));
        s.gives("transpose 1 1", 0, 1, Grid.even(7, 8, "."));
        s.gives("transpose 2 2", 3, 2, "1 . / 2 0");
        s.gives("transpose 2 3", 0, 2, ".");
        String full = Grid.even(8, 8, "5");
        new Scene(due, Grid.with(full, 0, 7, "-5")).gives("transpose 0 0", 64, 0, Grid.with(full, 7, 0, "-5"));
        s.refuses(ARGUMENT, "transpose 6 0");
        s.refuses(ARGUMENT, "transpose 0 6");
        s.refuses(ARGUMENT, "transpose -1 0");
        s.refuses(ARGUMENT, "transpose 0 -1");
    }

    // Promise 11, "how 0: the value is less than x; 1: greater than x"
    private static void valueLessOrGreater() {
        Scene s = new Scene(due, "-1 0 1 .");
        s.gives("select 5 0 0 -1", 0, 5, ". . . .");
        s.gives("select 5 0 0 0", 1, 5, "-1 . . .");
        s.gives("select 5 0 0 1", 2, 5, "-1 0 . .");
        s.gives("select 5 0 0 2", 3, 5, "-1 0 1 .");
        s.gives("select 5 0 1 -2", 3, 5, "-1 0 1 .");
        s.gives("select 5 0 1 -1", 2, 5, ". 0 1 .");
        s.gives("select 5 0 1 0", 1, 5, ". . 1 .");
        s.gives("select 5 0 1 1", 0, 5, ". . . .");
    }

    // The same: x is any long, also one that no value can be
    private static void valueAgainstAnyLong() {
        Scene s = new Scene(due, "-" + MOST + " 0 " + MOST);
        String all = "-" + MOST + " 0 " + MOST;
        s.gives("select 5 0 0 " + MOST, 2, 5, "-" + MOST + " 0 .");
        s.gives("select 5 0 0 1000000000001", 3, 5, all);
        s.gives("select 5 0 0 " + Long.MAX_VALUE, 3, 5, all);
        s.gives("select 5 0 0 -" + MOST, 0, 5, ". . .");
        s.gives("select 5 0 0 -999999999999", 1, 5, "-" + MOST + " . .");
        s.gives("select 5 0 0 " + Long.MIN_VALUE, 0, 5, ". . .");
        s.gives("select 5 0 1 -" + MOST, 2, 5, ". 0 " + MOST);
        s.gives("select 5 0 1 -1000000000001", 3, 5, all);
        s.gives("select 5 0 1 " + Long.MIN_VALUE, 3, 5, all);
        s.gives("select 5 0 1 " + MOST, 0, 5, ". . .");
        s.gives("select 5 0 1 999999999999", 1, 5, ". . " + MOST);
        s.gives("select 5 0 1 " + Long.MAX_VALUE, 0, 5, ". . .");
    }

    // Promise 11, "2: i less than j; 3: i greater than j; 4: i equal to j"
    private static void aboveBelowOrOnTheDiagonal() {
        Scene s = new Scene(due, "1 2 3 / 4 5 6 / 7 8 9", "1 2 3", "1 / 2 / 3", "0 . / . 0");
        for (String x : new String[] {"0", "5", "" + Long.MIN_VALUE, "" + Long.MAX_VALUE}) {
            s.gives("select 5 0 2 " + x, 3, 5, ". 2 3 / . . 6 / . . .");
            s.gives("select 5 0 3 " + x, 3, 5, ". . . / 4 . . / 7 8 .");
            s.gives("select 5 0 4 " + x, 3, 5, "1 . . / . 5 . / . . 9");
            s.gives("select 1 1 2 " + x, 2, 1, ". 2 3");
            s.gives("select 1 1 3 " + x, 0, 1, ". . .");
            s.gives("select 1 1 4 " + x, 1, 1, "1 . .");
            s.gives("select 2 2 2 " + x, 0, 2, ". / . / .");
            s.gives("select 2 2 3 " + x, 2, 2, ". / 2 / 3");
            s.gives("select 2 2 4 " + x, 1, 2, "1 / . / .");
            s.gives("select 3 3 4 " + x, 2, 3, "0 . / . 0");
        }
    }

    // Promise 11, "IllegalArgumentException also when how is not 0 .. 4."
    private static void howIsThatOrNot() {
        Scene s = new Scene(due, "1 2 / 3 4");
        String[] picked = {"1 . / . .", ". . / 3 4", ". 2 / . .", ". . / 3 .", "1 . / . 4"};
        int[] counts = {1, 2, 1, 1, 2};
        for (int how = 0; how < 5; how++) {
            s.gives("select 0 0 " + how + " 2", counts[how], 0, picked[how]);
        }
        for (int how : new int[] {-1, 5, 6, 8, Integer.MIN_VALUE, Integer.MAX_VALUE}) {
            s.refuses(ARGUMENT, "select 0 0 " + how + " 2");
            s.refuses(ARGUMENT, "select 5 0 " + how + " 2");
            s.refuses(ARGUMENT, "select 5 5 " + how + " 2");
        }
    }

    // Promise 12, "The sum over semiring k of all entries": of one there is nothing to add
    private static void sumOfOneEntry() {
        for (String v : new String[] {"0", "1", "-1", "5", MOST, "-" + MOST}) {
            Scene s = new Scene(due, ". . / . " + v);
            for (int k = 0; k < 4; k++) {
                s.answers("reduce 0 " + k, Long.parseLong(v));
            }
        }
    }

    // Promise 12, "(also when it is 0)"
    private static void sumsThatAreZero() {
        Scene s = new Scene(due, "5 . -5", "0 . 0", "5 . -4", "0 1 .", "0 -1 .");
        s.answers("reduce 0 0", 0);
        s.answers("reduce 1 0", 0);
        s.answers("reduce 2 0", 1);
        s.answers("reduce 1 1", 0);
        s.answers("reduce 3 1", 0);
        s.answers("reduce 1 2", 0);
        s.answers("reduce 3 2", 1);
        s.answers("reduce 4 2", 1);
        s.answers("reduce 1 3", 0);
        s.answers("reduce 4 3", 0);
    }

    // Promise 12, "NoSuchElementException when there is none"
    private static void noEntryAtAll() {
        Scene s = new Scene(due, ".", Grid.even(8, 8, "."), Grid.with(Grid.even(8, 8, "."), 7, 7, "-2"));
        for (int k = 0; k < 4; k++) {
            s.refuses(NONE, "reduce 0 " + k);
            s.refuses(NONE, "reduce 1 " + k);
            s.answers("reduce 2 " + k, -2);
        }
        for (int k : new int[] {-1, 4}) {
            s.refuses(ARGUMENT, "reduce 0 " + k);
            s.refuses(ARGUMENT, "reduce 2 " + k);
        }
        SemiringDesk x = new Scene(due, "7").desk();
        x.drop(0, 0, 0);
        due.is("reduce what was dropped", Call.outcome(x, "reduce 0 0"), NONE.getName());
    }

    // Promise 12, "row by row, in each from the least column on, one after the other"
    private static void rowByRow() {
        new Scene(due, MOST + " -1 / 1 .").answers("reduce 0 0", 1_000_000_000_000L);
        new Scene(due, MOST + " 1 / -1 .").refuses(RANGE, "reduce 0 0");
        new Scene(due, "-1 . / 1 " + MOST).answers("reduce 0 0", 1_000_000_000_000L);
        new Scene(due, "1 " + MOST + " / -1 .").refuses(RANGE, "reduce 0 0");
        new Scene(due, "-1 " + MOST + " / 1 .").answers("reduce 0 0", 1_000_000_000_000L);
        new Scene(due, "-1 . / " + MOST + " 2").refuses(RANGE, "reduce 0 0");
    }

    // Promise 12, "UnsupportedOperationException"
    private static void rangeOfReduce() {
        new Scene(due, "999999999999 1").answers("reduce 0 0", 1_000_000_000_000L);
        new Scene(due, MOST + " 1").refuses(RANGE, "reduce 0 0");
        new Scene(due, "-999999999999 -1").answers("reduce 0 0", -1_000_000_000_000L);
        new Scene(due, "-" + MOST + " -1").refuses(RANGE, "reduce 0 0");
        new Scene(due, MOST + " " + MOST + " -" + MOST).refuses(RANGE, "reduce 0 0");
        new Scene(due, MOST + " -" + MOST + " " + MOST).answers("reduce 0 0", 1_000_000_000_000L);
        String full = Grid.even(8, 8, "15625000000");
        new Scene(due, full).answers("reduce 0 0", 1_000_000_000_000L);
        new Scene(due, Grid.with(full, 7, 7, "15625000001")).refuses(RANGE, "reduce 0 0");
        Scene s = new Scene(due, MOST + " " + MOST + " 1");
        s.answers("reduce 0 1", 1);
        s.answers("reduce 0 2", 1);
        s.answers("reduce 0 3", 1_000_000_000_000L);
    }
}
