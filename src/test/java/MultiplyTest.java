/** Promise 7: multiply, with masks and with what is there. */
public final class MultiplyTest {
    private static final long MOST = 1_000_000_000_000L;
    private static final Due due = new Due();

    public static void main(String[] args) {
        semirings();
        entriesWithoutValueZero();
        masks();
        added();
        sameRegisters();
        range();
        rangeOfAdded();
        wrongArguments();
        wrongShapes();
        due.end();
    }

    private static SemiringDesk desk(String a, String b) {
        return Grid.write(Grid.write(new SemiringDesk(), 0, a), 1, b);
    }

    private static void gives(SemiringDesk x, int k, int mask, int how, String want) {
        String call = "multiply over " + k + " mask " + mask + " how " + how;
        int answer = x.multiply(2, 0, 1, k, mask, how);
        due.is(call, Grid.read(x, 2), want);
        due.is(call + " counts", answer, x.size(2) / 256);
    }

    private static void semirings() {
        SemiringDesk x = desk("2 3 . / . -4 5", "1 . / 6 . / . 7");
        gives(x, 0, -1, 0, "20 . / -24 35");
        gives(x, 1, -1, 0, "3 . / 2 12");
        gives(x, 2, -1, 0, "1 . / 1 1");
        gives(x, 3, -1, 0, "3 . / -4 5");
        SemiringDesk y = desk("1 / 2 / 3", "4 5");
        gives(y, 0, -1, 0, "4 5 / 8 10 / 12 15");
    }

    private static void entriesWithoutValueZero() {
        SemiringDesk x = desk("1 1 / 0 .", "3 0 / -3 .");
        gives(x, 0, -1, 0, ". . / . .");
        gives(x, 1, -1, 0, "-2 1 / 3 0");
        gives(x, 2, -1, 0, "1 . / . .");
        gives(x, 3, -1, 0, "1 0 / 0 0");
    }

    private static void masks() {
        SemiringDesk x = desk("1 2 / 3 4", "1 1 / 1 1");
        Grid.write(x, 3, "0 . / . 9");
        gives(x, 0, 3, 0, "3 . / . 7");
        gives(x, 0, 3, 1, ". 3 / 7 .");
        gives(x, 0, -1, 1, "3 3 / 7 7");
        Grid.write(x, 3, ". . / . .");
        gives(x, 0, 3, 0, ". . / . .");
        gives(x, 0, 3, 1, "3 3 / 7 7");
    }

    private static void added() {
        SemiringDesk x = desk("1 . / . 2", "3 . / 4 5");
        String[] wants = {"13 . / 28 30", "4 . / 6 7", "1 . / 1 1", "10 . / 20 20"};
        for (int k = 0; k < 4; k++) {
            Grid.write(x, 2, "10 . / 20 20");
            gives(x, k, -1, 2, wants[k]);
        }
        Grid.write(x, 2, "7 8 / . .");
        gives(x, 2, -1, 2, "1 8 / 1 1");
        Grid.write(x, 2, "-3 8 / -8 0");
        gives(x, 0, -1, 2, ". 8 / . 10");
        Grid.write(x, 3, ". . / . 0");
        Grid.write(x, 2, "1 2 / 3 4");
        gives(x, 0, 3, 2, "1 2 / 3 14");
        Grid.write(x, 2, "1 2 / 3 4");
        gives(x, 0, 3, 3, "4 2 / 11 4");
        addedZeros();
    }

    // A product 0 is no entry of the result, but an entry where it is added to one.
    private static void addedZeros() {
        SemiringDesk x = desk("0 .", "1 1 / 1 1");
        String[] wants = {"5 .", "1 0", "1 .", "5 0"};
        for (int k = 0; k < 4; k++) {
            Grid.write(x, 2, "5 0");
            gives(x, k, -1, 2, wants[k]);
        }
        Grid.write(x, 3, ". .");
        for (int k = 0; k < 4; k++) {
            Grid.write(x, 2, "5 0");
            gives(x, k, 3, 2, k % 2 == 0 ? "5 ." : "5 0");
        }
        Grid.write(x, 0, ". .");
        for (int k = 0; k < 4; k++) {
            Grid.write(x, 2, "5 0");
            gives(x, k, -1, 2, k % 2 == 0 ? "5 ." : "5 0");
        }
    }

    private static void sameRegisters() {
        SemiringDesk x = Grid.write(new SemiringDesk(), 4, "1 2 / 3 .");
        due.is("all the same", x.multiply(4, 4, 4, 0, 4, 2), 3);
        due.is("all the same", Grid.read(x, 4), "8 4 / 6 .");
        Grid.write(x, 4, "1 2 / 3 .");
        due.is("all the same, turned", x.multiply(4, 4, 4, 0, 4, 3), 4);
        due.is("all the same, turned", Grid.read(x, 4), "1 2 / 3 6");
        Grid.write(x, 0, "1 2 3");
        Grid.write(x, 1, "1 / 1 / 1");
        x.multiply(0, 1, 0, 0, -1, 0);
        due.is("to is b", Grid.read(x, 0), "1 2 3 / 1 2 3 / 1 2 3");
        due.is("b is left alone", Grid.read(x, 1), "1 / 1 / 1");
        x.multiply(1, 0, 1, 0, -1, 0);
        due.is("to is b, smaller", Grid.read(x, 1), "6 / 6 / 6");
    }

    private static void range() {
        long half = MOST / 2;
        outOfRange("1000000", "1000001", 0);
        outOfRange("-1000000", "1000001", 0);
        outOfRange("" + MOST, "" + MOST, 0);
        outOfRange("-" + MOST, "18446745", 0);
        outOfRange("" + MOST, "" + -MOST, 0);
        outOfRange("" + MOST + " 1 -5", "1 / 1 / 1", 0);
        outOfRange("" + half, half + 1 + "", 1);
        outOfRange("-" + MOST, "-1", 1);
        outOfRange("1 " + MOST, "1 / 1", 1);
        gives(desk("1000000", "-1000000"), 0, -1, 0, "-" + MOST);
        gives(desk("" + MOST, "1"), 0, -1, 0, "" + MOST);
        gives(desk("1", "-" + MOST), 0, -1, 0, "-" + MOST);
        gives(desk("0", "" + MOST), 0, -1, 0, ".");
        gives(desk("" + MOST + " -5 1", "1 / 1 / 1"), 0, -1, 0, "" + (MOST - 4));
        gives(desk("" + half, "" + half), 1, -1, 0, "" + MOST);
        gives(desk("" + MOST, "" + MOST), 2, -1, 0, "1");
        gives(desk("" + MOST, "-" + MOST), 3, -1, 0, "-" + MOST);
        SemiringDesk x = desk("" + MOST + " / 1", "2 1");
        Grid.write(x, 3, ". 1 / 1 1");
        gives(x, 0, 3, 0, ". " + MOST + " / 2 1");
        due.failsAndKeeps(UnsupportedOperationException.class, x, "turned", () -> x.multiply(2, 0, 1, 0, 3, 1));
    }

    private static void outOfRange(String a, String b, int k) {
        SemiringDesk x = Grid.write(desk(a, b), 2, "4");
        due.failsAndKeeps(UnsupportedOperationException.class, x, a + " by " + b + " over " + k,
                () -> x.multiply(2, 0, 1, k, -1, 0));
        due.failsAndKeeps(UnsupportedOperationException.class, x, a + " by " + b + " over " + k + " into a",
                () -> x.multiply(0, 0, 1, k, -1, 0));
    }

    private static void rangeOfAdded() {
        SemiringDesk x = Grid.write(desk("1", "1"), 2, "" + MOST);
        due.failsAndKeeps(UnsupportedOperationException.class, x, "added", () -> x.multiply(2, 0, 1, 0, -1, 2));
        gives(x, 3, -1, 2, "" + MOST);
        gives(x, 1, -1, 2, "2");
        Grid.write(x, 2, "" + (MOST - 1));
        gives(x, 0, -1, 2, "" + MOST);
    }

    private static void wrongArguments() {
        // No shape fits here, yet the argument is what is told first.
        SemiringDesk x = desk("1 2 3", "1 2 3");
        int[][] wrong = {
            {6, 0, 1, 0, -1, 0}, {-1, 0, 1, 0, -1, 0}, {2, 6, 1, 0, -1, 0}, {2, -1, 1, 0, -1, 0},
            {2, 0, 6, 0, -1, 0}, {2, 0, -1, 0, -1, 0}, {2, 0, 1, 4, -1, 0}, {2, 0, 1, -1, -1, 0},
            {2, 0, 1, 0, 6, 0}, {2, 0, 1, 0, -2, 0}, {2, 0, 1, 0, -1, 4}, {2, 0, 1, 0, -1, -1},
            {2, 0, 1, 0, Integer.MAX_VALUE, 0}, {2, 0, 1, 0, Integer.MIN_VALUE, 3},
        };
        for (int[] w : wrong) {
            due.failsAndKeeps(IllegalArgumentException.class, x, "multiply " + java.util.Arrays.toString(w),
                    () -> x.multiply(w[0], w[1], w[2], w[3], w[4], w[5]));
        }
    }

    private static void wrongShapes() {
        // The product is out of range too, yet the shapes are what is told first.
        SemiringDesk x = desk("" + MOST + " / " + MOST, "2 2 2");
        refuses(x, "columns and rows", 2, 1, 0, -1, 0);
        Grid.write(x, 3, "1 1 / 1 1");
        refuses(x, "mask has other columns", 2, 0, 1, 3, 0);
        refuses(x, "turned mask has other columns", 2, 0, 1, 3, 1);
        Grid.write(x, 3, "1 1 1");
        refuses(x, "mask has other rows", 2, 0, 1, 3, 0);
        Grid.write(x, 2, "1 1 / 1 1");
        refuses(x, "to has other columns", 2, 0, 1, -1, 2);
        refuses(x, "to has other columns, turned", 2, 0, 1, -1, 3);
        Grid.write(x, 2, "1 1 1 / 1 1 1 / 1 1 1");
        refuses(x, "to has other rows", 2, 0, 1, -1, 2);
        Grid.write(x, 0, "1 / 1");
        gives(x, 0, -1, 1, "2 2 2 / 2 2 2");
    }

    private static void refuses(SemiringDesk x, String what, int to, int a, int b, int mask, int how) {
        due.failsAndKeeps(IllegalStateException.class, x, what, () -> x.multiply(to, a, b, 0, mask, how));
    }
}
