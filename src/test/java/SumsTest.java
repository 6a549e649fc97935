import java.util.NoSuchElementException;

/** Promises 8, 9 and 12: add, each, reduce. */
public final class SumsTest {
    private static final long MOST = 1_000_000_000_000L;
    private static final Due due = new Due();

    public static void main(String[] args) {
        add();
        addZeros();
        addRange();
        each();
        eachRange();
        sameRegisters();
        wrongArguments();
        wrongShapes();
        reduce();
        reduceRange();
        reduceRefuses();
        due.end();
    }

    private static SemiringDesk desk(String a, String b) {
        return Grid.write(Grid.write(new SemiringDesk(), 0, a), 1, b);
    }

    private static void sums(SemiringDesk x, int k, String want) {
        int answer = x.add(2, 0, 1, k);
        due.is("add over " + k, Grid.read(x, 2), want);
        due.is("add over " + k + " counts", answer, x.size(2) / 256);
    }

    private static void products(SemiringDesk x, int k, String want) {
        int answer = x.each(2, 0, 1, k);
        due.is("each over " + k, Grid.read(x, 2), want);
        due.is("each over " + k + " counts", answer, x.size(2) / 256);
    }

    private static void add() {
        SemiringDesk x = desk("2 3 . / . -4 5", "7 . . / 6 -5 -5");
        sums(x, 0, "9 3 . / 6 -9 .");
        sums(x, 1, "2 3 . / 6 -5 -5");
        sums(x, 2, "1 3 . / 6 1 1");
        sums(x, 3, "7 3 . / 6 -4 5");
    }

    private static void addZeros() {
        SemiringDesk x = desk("0 0 . 0", "0 . 0 8");
        sums(x, 0, ". . . 8");
        sums(x, 1, "0 0 0 0");
        sums(x, 2, ". . . 1");
        sums(x, 3, "0 0 0 8");
    }

    private static void addRange() {
        SemiringDesk x = desk("" + MOST + " -" + MOST, "1 .");
        due.failsAndKeeps(UnsupportedOperationException.class, x, "add", () -> x.add(0, 0, 1, 0));
        sums(x, 1, "1 -" + MOST);
        sums(x, 2, "1 -" + MOST);
        sums(x, 3, MOST + " -" + MOST);
        Grid.write(x, 1, ". -1");
        due.failsAndKeeps(UnsupportedOperationException.class, x, "add below", () -> x.add(2, 0, 1, 0));
        Grid.write(x, 0, (MOST - 1) + " " + (1 - MOST));
        Grid.write(x, 1, "1 -1");
        sums(x, 0, MOST + " -" + MOST);
    }

    private static void each() {
        SemiringDesk x = desk("2 3 . / 0 -4 5", "7 . . / 6 -5 5");
        products(x, 0, "14 . . / . 20 25");
        products(x, 1, "9 . . / 6 -9 10");
        products(x, 2, "1 . . / . 1 1");
        products(x, 3, "2 . . / 0 -5 5");
    }

    private static void eachRange() {
        String[][] wrong = {
            {"1000000", "1000001", "0"}, {"" + MOST, "" + MOST, "0"}, {"-" + MOST, "-2", "0"},
            {"3000000000", "-6148914691", "0"}, {"" + MOST, "1", "1"}, {"-1", "-" + MOST, "1"},
        };
        for (String[] w : wrong) {
            SemiringDesk x = desk(w[0], w[1]);
            due.failsAndKeeps(UnsupportedOperationException.class, x, "each " + String.join(" ", w),
                    () -> x.each(1, 0, 1, Integer.parseInt(w[2])));
        }
        products(desk("-1 -" + MOST, "-" + MOST + " 1"), 0, MOST + " -" + MOST);
        products(desk("0 " + MOST, MOST + " 0"), 0, ". .");
        products(desk("" + MOST, "-" + MOST), 1, "0");
        products(desk("" + MOST, "" + MOST), 2, "1");
        products(desk("" + MOST, "" + MOST), 3, "" + MOST);
    }

    private static void sameRegisters() {
        SemiringDesk x = desk("1 2", "3 .");
        due.is("add a to a", x.add(0, 0, 0, 0), 2);
        due.is("add into a", Grid.read(x, 0), "2 4");
        due.is("each into b", x.each(1, 0, 1, 0), 1);
        due.is("each into b", Grid.read(x, 1), "6 .");
        due.is("a is left alone", Grid.read(x, 0), "2 4");
        x.add(5, 0, 1, 0);
        due.is("a new shape", Grid.read(x, 5), "8 4");
    }

    private static void wrongArguments() {
        SemiringDesk x = desk("1 2", "1 / 2");
        int[][] wrong = {
            {6, 0, 1, 0}, {-1, 0, 1, 0}, {2, 6, 1, 0}, {2, -1, 1, 0},
            {2, 0, 6, 0}, {2, 0, -1, 0}, {2, 0, 1, 4}, {2, 0, 1, -1},
        };
        for (int[] w : wrong) {
            String row = java.util.Arrays.toString(w);
            due.failsAndKeeps(IllegalArgumentException.class, x, "add " + row,
                    () -> x.add(w[0], w[1], w[2], w[3]));
            due.failsAndKeeps(IllegalArgumentException.class, x, "each " + row,
                    () -> x.each(w[0], w[1], w[2], w[3]));
        }
    }

    private static void wrongShapes() {
        // What stands at (0, 0) is out of range too, yet the shapes are what is told first.
        String[] others = {MOST + " / 1", MOST + " 1", "" + MOST, MOST + " 1 1 / 1 1 1"};
        for (String other : others) {
            SemiringDesk x = desk(MOST + " 1 / 1 1", other);
            due.failsAndKeeps(IllegalStateException.class, x, "add " + other, () -> x.add(2, 0, 1, 0));
            due.failsAndKeeps(IllegalStateException.class, x, "each " + other, () -> x.each(2, 1, 0, 0));
        }
    }

    private static void reduce() {
        SemiringDesk x = Grid.write(new SemiringDesk(), 3, ". 4 -9 / 0 . 3");
        due.is("reduce over 0", x.reduce(3, 0), -2);
        due.is("reduce over 1", x.reduce(3, 1), -9);
        due.is("reduce over 2", x.reduce(3, 2), 1);
        due.is("reduce over 3", x.reduce(3, 3), 4);
        due.is("reduce leaves all alone", Grid.readAll(x), ". | . | . | . 4 -9 / 0 . 3 | . | .");
        Grid.write(x, 3, "5 -5");
        due.is("reduce to 0 over 0", x.reduce(3, 0), 0);
        Grid.write(x, 3, "0 0");
        due.is("reduce to 0 over 2", x.reduce(3, 2), 0);
        Grid.write(x, 3, ". -6");
        for (int k = 0; k < 4; k++) {
            due.is("reduce one entry over " + k, x.reduce(3, k), -6);
        }
    }

    private static void reduceRange() {
        SemiringDesk x = Grid.write(new SemiringDesk(), 0, MOST + " -5 / 5 .");
        due.is("row by row", x.reduce(0, 0), MOST);
        x.transpose(1, 0);
        due.failsAndKeeps(UnsupportedOperationException.class, x, "reduce the other way", () -> x.reduce(1, 0));
        Grid.write(x, 0, "-" + MOST + " -1 / 1 .");
        due.failsAndKeeps(UnsupportedOperationException.class, x, "reduce below", () -> x.reduce(0, 0));
        due.is("no sum out of range over 1", x.reduce(0, 1), -MOST);
        due.is("no sum out of range over 2", x.reduce(0, 2), 1);
        due.is("no sum out of range over 3", x.reduce(0, 3), 1);
    }

    private static void reduceRefuses() {
        SemiringDesk x = new SemiringDesk();
        for (int k = 0; k < 4; k++) {
            int over = k;
            due.failsAndKeeps(NoSuchElementException.class, x, "reduce nothing", () -> x.reduce(0, over));
        }
        due.fails(IllegalArgumentException.class, "reduce over 4", () -> x.reduce(0, 4));
        due.fails(IllegalArgumentException.class, "reduce over -1", () -> x.reduce(0, -1));
        due.fails(IllegalArgumentException.class, "reduce 6", () -> x.reduce(6, 0));
        due.fails(IllegalArgumentException.class, "reduce -1", () -> x.reduce(-1, 0));
    }
}
