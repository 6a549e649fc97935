/** Promises 7 to 9: each sentence that names a boundary, from both sides. */
public final class ProductsBoundsTest {
    private static final Class<IllegalArgumentException> ARGUMENT = IllegalArgumentException.class;
    private static final Class<IllegalStateException> STATE = IllegalStateException.class;
    private static final Class<UnsupportedOperationException> RANGE = UnsupportedOperationException.class;
    private static final String MOST = "1000000000000";
    private static final Due due = new Due();

    public static void main(String[] args) {
        entryForSomeT();
        fromTheLeastOn();
        maskIsRegisterOrNone();
        onlyWhereTheMaskHasOne();
        nothingElseIsWorkedOut();
        whereBothHaveOne();
        sumOfOldAndNew();
        howIsThatOrNot();
        columnsAndRows();
        maskFits();
        toFits();
        rangeOverPlusTimes();
        rangeOverLeastPlus();
        noRangeOverTheOthers();
        addWhereBothHaveOne();
        eachWhereBothHaveOne();
        sameRowsAndColumns();
        rangeOfAddAndEach();
        largest();
        due.end();
    }

    // Promise 7, "at (i, j) there is an entry if for some t both a has one at (i, t) and b at (t, j)"
    private static void entryForSomeT() {
        for (int k = 0; k < 4; k++) {
            String one = k == 1 ? "2" : "1";
            new Scene(due, "1 . 1", ". / 1 / .").gives("multiply 5 0 1 " + k + " -1 0", 0, 5, ".");
            new Scene(due, "1 . 1", ". / 1 / 1").gives("multiply 5 0 1 " + k + " -1 0", 1, 5, one);
            new Scene(due, "1 . 1", "1 / 1 / .").gives("multiply 5 0 1 " + k + " -1 0", 1, 5, one);
            new Scene(due, ". .", "1 / 1").gives("multiply 5 0 1 " + k + " -1 0", 0, 5, ".");
            new Scene(due, "1 1", ". / .").gives("multiply 5 0 1 " + k + " -1 0", 0, 5, ".");
        }
    }

    // Promise 7, "the sum of the products of those two, for t from the least on, one after the other"
    private static void fromTheLeastOn() {
        Scene s = new Scene(due, MOST + " -1 1", "1 / 1 / 1", MOST + " 1 -1", "-1 1 " + MOST, "1 -1 " + MOST);
        s.gives("multiply 5 0 1 0 -1 0", 1, 5, MOST);
        s.refuses(RANGE, "multiply 5 2 1 0 -1 0");
        s.gives("multiply 5 3 1 0 -1 0", 1, 5, MOST);
        s.gives("multiply 5 4 1 0 -1 0", 1, 5, MOST);
        Scene eight = new Scene(due, MOST + " . . . . . -1 1", Grid.even(8, 1, "1"), "1 . . . . . -1 " + MOST);
        eight.gives("multiply 5 0 1 0 -1 0", 1, 5, MOST);
        eight.gives("multiply 5 2 1 0 -1 0", 1, 5, MOST);
        new Scene(due, "1 . . . . . . " + MOST, Grid.even(8, 1, "1")).refuses(RANGE, "multiply 5 0 1 0 -1 0");
    }

    // Promise 7, "MASK is a register, or -1 for none" and "(mask may be -1)"
    private static void maskIsRegisterOrNone() {
        Scene s = new Scene(due, "2", "3", "1", "1", "1", "1");
        s.gives("multiply 0 0 1 0 -1 0", 1, 0, "6");
        // Where there is no mask, there is none that could leave places out.
        s.gives("multiply 0 0 1 0 -1 1", 1, 0, "6");
        s.gives("multiply 0 0 1 0 -1 2", 1, 0, "8");
        s.gives("multiply 0 0 1 0 -1 3", 1, 0, "8");
        s.gives("multiply 0 0 1 0 0 0", 1, 0, "6");
        s.gives("multiply 0 0 1 0 5 0", 1, 0, "6");
        for (int mask : new int[] {-2, 6, -3, 7, Integer.MIN_VALUE, Integer.MAX_VALUE}) {
            for (int how = 0; how < 4; how++) {
                s.refuses(ARGUMENT, "multiply 0 0 1 0 " + mask + " " + how);
            }
        }
    }

    // Promise 7, "only at places where it has an entry (how & 1 is 1: where it has none) anything
    // is worked out": an entry 0 is an entry.
    private static void onlyWhereTheMaskHasOne() {
        Scene s = new Scene(due, "1 / 1", "4 5", "0 . / . -1", ". . / . .", "1 1 / 1 1");
        s.gives("multiply 5 0 1 0 2 0", 2, 5, "4 . / . 5");
        s.gives("multiply 5 0 1 0 2 1", 2, 5, ". 5 / 4 .");
        s.gives("multiply 5 0 1 0 3 0", 0, 5, ". . / . .");
        s.gives("multiply 5 0 1 0 3 1", 4, 5, "4 5 / 4 5");
        s.gives("multiply 5 0 1 0 4 0", 4, 5, "4 5 / 4 5");
        s.gives("multiply 5 0 1 0 4 1", 0, 5, ". . / . .");
        s.gives("multiply 4 0 1 0 3 2", 4, 4, "1 1 / 1 1");
        s.gives("multiply 4 0 1 0 3 3", 4, 4, "5 6 / 5 6");
    }

    // The same sentence: what is not worked out is not out of range either.
    private static void nothingElseIsWorkedOut() {
        Scene s = new Scene(due, MOST + " / 1", "2 1", ". 1 / 1 1", "1 . / . .", MOST + " 0 / 0 0");
        s.gives("multiply 5 0 1 0 2 0", 3, 5, ". " + MOST + " / 2 1");
        s.refuses(RANGE, "multiply 5 0 1 0 2 1");
        s.gives("multiply 5 0 1 0 3 1", 3, 5, ". " + MOST + " / 2 1");
        s.refuses(RANGE, "multiply 5 0 1 0 3 0");
        s.gives("multiply 4 0 1 0 2 2", 4, 4, MOST + " " + MOST + " / 2 1");
        s.refuses(RANGE, "multiply 4 0 1 0 3 2");
        Scene old = new Scene(due, "1", "1", ".", MOST);
        old.gives("multiply 3 0 1 0 2 2", 1, 3, MOST);
        old.refuses(RANGE, "multiply 3 0 1 0 2 3");
    }

    // Promise 7, "where both have one, the sum of the old and the new one; otherwise the one that
    // there is."
    private static void whereBothHaveOne() {
        Scene s = new Scene(due, "2 . / . 2", "3 . / 3 .", "7 7 / . .");
        String[] sums = {"13 7 / 6 .", "5 7 / 5 .", "1 7 / 1 .", "7 7 / 2 ."};
        for (int k = 0; k < 4; k++) {
            s.gives("multiply 2 0 1 " + k + " -1 2", 3, 2, sums[k]);
            s.gives("multiply 2 0 1 " + k + " -1 3", 3, 2, sums[k]);
        }
        Scene empty = new Scene(due, "2", "3", ".", ".");
        empty.gives("multiply 2 0 1 0 -1 2", 1, 2, "6");
        empty.gives("multiply 2 3 3 0 -1 2", 0, 2, ".");
        // Over 2 an old 5 becomes 1 only where a new one, be it 0, is there.
        Scene zero = new Scene(due, "0", "1", "5", ".");
        zero.gives("multiply 2 0 1 2 -1 2", 1, 2, "1");
        zero.gives("multiply 2 3 1 2 -1 2", 1, 2, "5");
    }

    // Promise 7, the sum of the old and the new one, and its UnsupportedOperationException
    private static void sumOfOldAndNew() {
        new Scene(due, "1", "1", "999999999999").gives("multiply 2 0 1 0 -1 2", 1, 2, MOST);
        new Scene(due, "1", "-1", "-999999999999").gives("multiply 2 0 1 0 -1 2", 1, 2, "-" + MOST);
        Scene s = new Scene(due, "1", "1", MOST);
        s.refuses(RANGE, "multiply 2 0 1 0 -1 2");
        s.gives("multiply 2 0 1 0 -1 0", 1, 2, "1");
        new Scene(due, "1", "-1", "-" + MOST).refuses(RANGE, "multiply 2 0 1 0 -1 2");
        // The new ones are summed first, the old one comes to them after that.
        new Scene(due, "1 -1", "1 / 1", MOST).gives("multiply 2 0 1 0 -1 2", 1, 2, MOST);
        new Scene(due, MOST + " 1", "1 / 1", "-1").refuses(RANGE, "multiply 2 0 1 0 -1 2");
        // Over 1 the products are sums; the sum itself, the lesser one, is never out of range.
        new Scene(due, "1", "1", "-" + MOST).gives("multiply 2 0 1 1 -1 2", 1, 2, "-" + MOST);
        new Scene(due, MOST, "1", "0").refuses(RANGE, "multiply 2 0 1 1 -1 2");
    }

    // Promise 7, "IllegalArgumentException also when how is not 0 .. 3"
    private static void howIsThatOrNot() {
        Scene s = new Scene(due, "2", "3", "10", ".");
        s.gives("multiply 2 0 1 0 3 0", 0, 2, ".");
        s.gives("multiply 2 0 1 0 3 1", 1, 2, "6");
        s.gives("multiply 2 0 1 0 3 2", 1, 2, "10");
        s.gives("multiply 2 0 1 0 3 3", 1, 2, "16");
        for (int how : new int[] {-1, 4, 5, 7, -4, Integer.MIN_VALUE, Integer.MAX_VALUE}) {
            s.refuses(ARGUMENT, "multiply 2 0 1 0 -1 " + how);
            s.refuses(ARGUMENT, "multiply 2 0 1 0 3 " + how);
        }
    }

    // Promise 7, "IllegalStateException when a has not as many columns as b rows"
    private static void columnsAndRows() {
        for (int columns : new int[] {1, 2, 7, 8}) {
            for (int rows : new int[] {1, 2, 7, 8}) {
                Scene s = new Scene(due, Grid.even(2, columns, "1"), Grid.even(rows, 3, "1"));
                if (columns == rows) {
                    s.gives("multiply 5 0 1 0 -1 0", 6, 5, Grid.even(2, 3, "" + rows));
                } else {
                    s.refuses(STATE, "multiply 5 0 1 0 -1 0");
                }
            }
        }
        Scene s = new Scene(due, Grid.even(2, 3, "."), Grid.even(3, 2, "."));
        s.gives("multiply 5 0 1 0 -1 0", 0, 5, Grid.even(2, 2, "."));
        s.gives("multiply 5 1 0 0 -1 0", 0, 5, Grid.even(3, 3, "."));
        s.refuses(STATE, "multiply 5 0 0 0 -1 0");
        s.refuses(STATE, "multiply 5 1 1 0 -1 0");
    }

    // Promise 7, "or the mask ... not the rows of a and the columns of b"
    private static void maskFits() {
        int[][] others = {{1, 3}, {3, 3}, {2, 2}, {2, 4}, {3, 2}, {1, 1}, {8, 8}, {2, 8}};
        for (int how = 0; how < 4; how++) {
            for (int[] other : others) {
                Scene s = new Scene(due, "1 1 / 1 1", "1 1 1 / 1 1 1", "1 1 1 / 1 1 1",
                        Grid.even(other[0], other[1], "1"));
                s.refuses(STATE, "multiply 2 0 1 0 3 " + how);
                s.refuses(STATE, "multiply 5 0 1 0 3 " + how);
            }
        }
        Scene s = new Scene(due, "1 1 / 1 1", "1 1 1 / 1 1 1", "1 1 1 / 1 1 1");
        s.gives("multiply 5 0 1 0 2 0", 6, 5, "2 2 2 / 2 2 2");
        s.gives("multiply 5 0 1 0 2 1", 0, 5, ". . . / . . .");
    }

    // Promise 7, "or (if they are added) the register to, not the rows of a and the columns of b"
    private static void toFits() {
        int[][] others = {{1, 3}, {3, 3}, {2, 2}, {2, 4}, {3, 2}, {1, 1}, {8, 8}, {2, 8}};
        for (int[] other : others) {
            Scene s = new Scene(due, "1 1 / 1 1", "1 1 1 / 1 1 1", Grid.even(other[0], other[1], "1"));
            s.gives("multiply 2 0 1 0 -1 0", 6, 2, "2 2 2 / 2 2 2");
            s.gives("multiply 2 0 1 0 -1 1", 6, 2, "2 2 2 / 2 2 2");
            s.refuses(STATE, "multiply 2 0 1 0 -1 2");
            s.refuses(STATE, "multiply 2 0 1 0 -1 3");
            s.refuses(STATE, "multiply 2 0 1 0 1 2");
        }
        new Scene(due, "1 1 / 1 1", "1 1 1 / 1 1 1", "1 . . / . . 1")
                .gives("multiply 2 0 1 0 -1 2", 6, 2, "3 2 2 / 2 2 3");
    }

    // Promise 7, "UnsupportedOperationException": over 0 the product and each sum on the way
    private static void rangeOverPlusTimes() {
        inRange(0, "1000000", "1000000", MOST);
        inRange(0, "-1000000", "1000000", "-" + MOST);
        inRange(0, "-1000000", "-1000000", MOST);
        inRange(0, MOST, "1", MOST);
        inRange(0, "-1", MOST, "-" + MOST);
        inRange(0, "-1", "-" + MOST, MOST);
        inRange(0, "500000000000", "-2", "-" + MOST);
        inRange(0, "2", "500000000000", MOST);
        inRange(0, "999999999999", "1", "999999999999");
        outOfRange(0, "1000001", "1000000");
        outOfRange(0, "10001", "99990001");
        outOfRange(0, "-10001", "99990001");
        outOfRange(0, "-1000001", "1000000");
        outOfRange(0, "-1000001", "-1000000");
        outOfRange(0, MOST, "2");
        outOfRange(0, MOST, "-2");
        outOfRange(0, "500000000001", "2");
        outOfRange(0, "500000000001", "-2");
        outOfRange(0, MOST, MOST);
        outOfRange(0, "-" + MOST, MOST);
        outOfRange(0, "4294967296", "4294967296");
        new Scene(due, "0", MOST).gives("multiply 5 0 1 0 -1 0", 0, 5, ".");
        new Scene(due, "-" + MOST, "0").gives("multiply 5 0 1 0 -1 0", 0, 5, ".");
    }

    // The same: over 1 the product is a sum
    private static void rangeOverLeastPlus() {
        inRange(1, "500000000000", "500000000000", MOST);
        inRange(1, "-500000000000", "-500000000000", "-" + MOST);
        inRange(1, MOST, "0", MOST);
        inRange(1, MOST, "-" + MOST, "0");
        outOfRange(1, "500000000001", "500000000000");
        outOfRange(1, "-500000000001", "-500000000000");
        outOfRange(1, MOST, "1");
        outOfRange(1, "-" + MOST, "-1");
        outOfRange(1, MOST, MOST);
        // A product on the way counts, though it is not the least one.
        new Scene(due, "1 " + MOST, "1 / 1").refuses(RANGE, "multiply 5 0 1 1 -1 0");
        new Scene(due, "1 " + MOST, "1 / 0").gives("multiply 5 0 1 1 -1 0", 1, 5, "2");
    }

    // The same: over 2 and 3 nothing is out of range
    private static void noRangeOverTheOthers() {
        for (String x : new String[] {MOST, "-" + MOST}) {
            for (String y : new String[] {MOST, "-" + MOST}) {
                inRange(2, x, y, "1");
                inRange(3, x, y, x.equals(y) ? x : "-" + MOST);
                Scene s = new Scene(due, x + " " + x, y + " / " + y, y);
                s.gives("multiply 2 0 1 2 -1 2", 1, 2, "1");
                s.gives("multiply 2 0 1 3 -1 2", 1, 2, y);
            }
        }
    }

    private static void inRange(int k, String x, String y, String want) {
        Scene s = new Scene(due, x, y);
        s.gives("multiply 5 0 1 " + k + " -1 0", 1, 5, want);
        s.gives("multiply 5 1 0 " + k + " -1 0", 1, 5, want);
        s.gives("each 5 0 1 " + k, 1, 5, want);
        s.gives("each 5 1 0 " + k, 1, 5, want);
    }

    private static void outOfRange(int k, String x, String y) {
        Scene s = new Scene(due, x, y, "9");
        for (int to = 0; to < 3; to++) {
            s.refuses(RANGE, "multiply " + to + " 0 1 " + k + " -1 0");
            s.refuses(RANGE, "multiply " + to + " 1 0 " + k + " -1 0");
            s.refuses(RANGE, "each " + to + " 0 1 " + k);
            s.refuses(RANGE, "each " + to + " 1 0 " + k);
        }
    }

    // Promise 8, "where both a and b have an entry, the sum of a's and b's; otherwise the one that
    // there is."
    private static void addWhereBothHaveOne() {
        Scene s = new Scene(due, "4 4 . .", "-9 . -9 .");
        String[] sums = {"-5 4 -9 .", "-9 4 -9 .", "1 4 -9 .", "4 4 -9 ."};
        for (int k = 0; k < 4; k++) {
            s.gives("add 5 0 1 " + k, 3, 5, sums[k]);
            s.gives("add 5 1 0 " + k, 3, 5, sums[k]);
            s.gives("add 5 4 4 " + k, 0, 5, ".");
        }
    }

    // Promise 9, "Where both a and b have an entry, the product of a's and b's over semiring k."
    private static void eachWhereBothHaveOne() {
        Scene s = new Scene(due, "4 4 . .", "-9 . -9 .", ". . -9 -9");
        String[] products = {"-36 . . .", "-5 . . .", "1 . . .", "-9 . . ."};
        for (int k = 0; k < 4; k++) {
            s.gives("each 5 0 1 " + k, 1, 5, products[k]);
            s.gives("each 5 1 0 " + k, 1, 5, products[k]);
            s.gives("each 5 0 2 " + k, 0, 5, ". . . .");
            s.gives("each 5 4 4 " + k, 0, 5, ".");
        }
    }

    // Promises 8 and 9, "IllegalStateException when rows or columns are not the same"
    private static void sameRowsAndColumns() {
        int[][] shapes = {{1, 1}, {1, 8}, {8, 1}, {2, 3}, {3, 2}, {2, 2}, {8, 8}, {8, 7}, {7, 8}};
        for (int[] x : shapes) {
            for (int[] y : shapes) {
                Scene s = new Scene(due, Grid.even(x[0], x[1], "2"), Grid.even(y[0], y[1], "2"));
                int places = x[0] * x[1];
                if (x == y) {
                    s.gives("add 5 0 1 1", places, 5, Grid.even(x[0], x[1], "2"));
                    s.gives("each 5 0 1 1", places, 5, Grid.even(x[0], x[1], "4"));
                } else {
                    s.refuses(STATE, "add 5 0 1 1");
                    s.refuses(STATE, "each 5 0 1 1");
                }
            }
        }
        // The register to need not have the same.
        Scene s = new Scene(due, "2 2", "3 3", "1 / 1 / 1");
        s.gives("add 2 0 1 0", 2, 2, "5 5");
        s.gives("each 2 0 1 0", 2, 2, "6 6");
        s.refuses(STATE, "add 0 0 2 0");
        s.refuses(STATE, "each 2 2 0 0");
    }

    // Promises 8 and 9, "UnsupportedOperationException"
    private static void rangeOfAddAndEach() {
        new Scene(due, "999999999999 -999999999999", "1 -1").gives("add 5 0 1 0", 2, 5, MOST + " -" + MOST);
        new Scene(due, MOST + " -" + MOST, "-1 1").gives("add 5 0 1 0", 2, 5, "999999999999 -999999999999");
        new Scene(due, MOST, "-" + MOST).gives("add 5 0 1 0", 0, 5, ".");
        new Scene(due, MOST + " .", ". " + MOST).gives("add 5 0 1 0", 2, 5, MOST + " " + MOST);
        new Scene(due, MOST + " .", ". " + MOST).gives("each 5 0 1 0", 0, 5, ". .");
        for (String sign : new String[] {"", "-"}) {
            Scene s = new Scene(due, ". " + sign + MOST, "2 " + sign + "1");
            for (int to = 0; to < 3; to++) {
                s.refuses(RANGE, "add " + to + " 0 1 0");
                s.refuses(RANGE, "add " + to + " 1 0 0");
                s.refuses(RANGE, "each " + to + " 0 1 1");
            }
            s.gives("add 5 0 1 1", 2, 5, "2 " + (sign.isEmpty() ? "1" : "-" + MOST));
            s.gives("add 5 0 1 2", 2, 5, "2 1");
            s.gives("add 5 0 1 3", 2, 5, "2 " + (sign.isEmpty() ? MOST : "-1"));
            s.gives("each 5 0 1 2", 1, 5, ". 1");
        }
    }

    // Terms, "ROWS and COLUMNS (1 .. 8 each)": the largest ones
    private static void largest() {
        Scene s = new Scene(due, Grid.even(8, 8, "1"), Grid.even(8, 8, "-1"));
        s.gives("multiply 0 0 1 0 0 0", 64, 0, Grid.even(8, 8, "-8"));
        s.gives("multiply 0 0 1 0 0 2", 64, 0, Grid.even(8, 8, "-7"));
        s.gives("multiply 0 0 1 1 -1 0", 64, 0, Grid.even(8, 8, "0"));
        s.gives("multiply 0 0 1 2 -1 0", 64, 0, Grid.even(8, 8, "1"));
        s.gives("multiply 0 0 1 3 -1 2", 64, 0, Grid.even(8, 8, "1"));
        s.gives("add 0 0 1 0", 0, 0, Grid.even(8, 8, "."));
        s.gives("add 0 0 1 1", 64, 0, Grid.even(8, 8, "-1"));
        s.gives("each 0 0 1 0", 64, 0, Grid.even(8, 8, "-1"));
        s.gives("each 0 0 1 1", 64, 0, Grid.even(8, 8, "0"));
    }
}
