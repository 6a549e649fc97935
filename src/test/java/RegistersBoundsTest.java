import java.util.NoSuchElementException;

/** Promises 1 to 6: each sentence that names a boundary, from both sides. */
public final class RegistersBoundsTest {
    private static final Class<IllegalArgumentException> ARGUMENT = IllegalArgumentException.class;
    private static final Class<NoSuchElementException> NONE = NoSuchElementException.class;
    private static final String MOST = "1000000000000";
    private static final int[][] SHAPES = {{1, 1}, {1, 8}, {8, 1}, {2, 3}, {7, 8}, {8, 7}, {8, 8}};
    private static final Due due = new Due();

    public static void main(String[] args) {
        newObject();
        shapeWithin();
        shapeBeyond();
        shapeTakesAllEntries();
        placesWithin();
        placesBeyond();
        placesAreThoseOfTheRegister();
        valuesWithin();
        valuesBeyond();
        putWhereOneIs();
        dropWhereNoneIs();
        atWhereNoneIs();
        leastAndGreatestSize();
        due.end();
    }

    // Promise 1, "Six empty registers."; "At first all have one row, one column and no entry."
    private static void newObject() {
        Scene s = new Scene(due);
        for (int r = 0; r < 6; r++) {
            s.answers("size " + r, 17);
            s.refuses(NONE, "at " + r + " 0 0");
            s.refuses(ARGUMENT, "at " + r + " 1 0");
            s.refuses(ARGUMENT, "at " + r + " 0 1");
            s.answers("drop " + r + " 0 0", 0);
            s.gives("put " + r + " 0 0 1", 0, r, "1");
        }
        s.refuses(ARGUMENT, "size 6");
        s.refuses(ARGUMENT, "size -1");
    }

    // Promise 2, "IllegalArgumentException also when rows or columns is not 1 .. 8."
    private static void shapeWithin() {
        Scene s = new Scene(due, "4 .", ". 5");
        for (int rows = 1; rows <= 8; rows++) {
            for (int columns = 1; columns <= 8; columns++) {
                s.gives("shape 1 " + rows + " " + columns, 0, 1, Grid.even(rows, columns, "."));
            }
        }
    }

    // The same sentence.
    private static void shapeBeyond() {
        Scene s = new Scene(due, "4 .", ". 5");
        for (int wrong : new int[] {0, 9, -1, 16, Integer.MIN_VALUE, Integer.MAX_VALUE}) {
            for (int right : new int[] {1, 2, 8}) {
                s.refuses(ARGUMENT, "shape 1 " + wrong + " " + right);
                s.refuses(ARGUMENT, "shape 1 " + right + " " + wrong);
            }
            s.refuses(ARGUMENT, "shape 1 " + wrong + " " + wrong);
        }
    }

    // Promise 2, "A register has so many rows and columns, and no entries."
    private static void shapeTakesAllEntries() {
        new Scene(due, Grid.even(8, 8, "3")).gives("shape 0 8 8", 0, 0, Grid.even(8, 8, "."));
        new Scene(due, "0").gives("shape 0 1 1", 0, 0, ".");
        SemiringDesk x = new Scene(due, Grid.even(8, 8, "3")).desk();
        x.shape(0, 1, 8);
        x.shape(0, 8, 8);
        due.is("a register made smaller and larger", Grid.read(x, 0), Grid.even(8, 8, "."));
    }

    // Promises 3 to 5, "IllegalArgumentException also when there is no such place": corners.
    private static void placesWithin() {
        for (int[] shape : SHAPES) {
            int rows = shape[0];
            int columns = shape[1];
            Scene empty = new Scene(due, ".", Grid.even(rows, columns, "."));
            Scene full = new Scene(due, ".", Grid.even(rows, columns, "6"));
            for (int corner = 0; corner < 4; corner++) {
                int i = corner % 2 * (rows - 1);
                int j = corner / 2 * (columns - 1);
                String place = " 1 " + i + " " + j;
                empty.gives("put" + place + " 6", 0, 1, Grid.with(Grid.even(rows, columns, "."), i, j, "6"));
                empty.answers("drop" + place, 0);
                empty.refuses(NONE, "at" + place);
                full.gives("drop" + place, 1, 1, Grid.with(Grid.even(rows, columns, "6"), i, j, "."));
                full.answers("at" + place, 6);
            }
        }
    }

    // The same sentence: one beyond each side.
    private static void placesBeyond() {
        for (int[] shape : SHAPES) {
            int rows = shape[0];
            int columns = shape[1];
            Scene full = new Scene(due, ".", Grid.even(rows, columns, "6"));
            int[][] places = {
                {-1, 0}, {0, -1}, {rows, 0}, {0, columns}, {rows, columns - 1}, {rows - 1, columns}, {rows, columns},
                {-1, columns - 1}, {rows - 1, -1}, {-1, -1}, {-1, columns}, {rows, -1},
                {Integer.MIN_VALUE, 0}, {0, Integer.MIN_VALUE}, {Integer.MAX_VALUE, 0}, {0, Integer.MAX_VALUE},
            };
            for (int[] p : places) {
                String place = " 1 " + p[0] + " " + p[1];
                full.refuses(ARGUMENT, "put" + place + " 5");
                full.refuses(ARGUMENT, "drop" + place);
                full.refuses(ARGUMENT, "at" + place);
            }
        }
    }

    // The same sentence: a place is one of its own register, and of its shape as it is now.
    private static void placesAreThoseOfTheRegister() {
        Scene s = new Scene(due, "1 1 1", "2 / 2 / 2");
        s.answers("at 0 0 2", 1);
        s.refuses(ARGUMENT, "at 1 0 2");
        s.answers("at 1 2 0", 2);
        s.refuses(ARGUMENT, "at 0 2 0");
        SemiringDesk x = s.desk();
        x.transpose(0, 0);
        due.is("a place that has come", Call.outcome(x, "put 0 2 0 9"), "0");
        due.is("a place that has gone", Call.outcome(x, "put 0 0 2 9"), ARGUMENT.getName());
        x.shape(1, 1, 2);
        due.is("a place that has gone", Call.outcome(x, "drop 1 1 0"), ARGUMENT.getName());
        due.is("a place that has come", Call.outcome(x, "drop 1 0 1"), "0");
        due.is("the registers", Grid.readAll(x), "1 / 1 / 9 | . . | . | . | . | .");
    }

    // Promise 3, "or v is not from -10^12 to 10^12"
    private static void valuesWithin() {
        Scene s = new Scene(due, ". 7");
        for (String v : new String[] {MOST, "-" + MOST, "999999999999", "-999999999999", "0", "1", "-1"}) {
            s.gives("put 0 0 0 " + v, 0, 0, v + " 7");
            s.gives("put 0 0 1 " + v, 0, 0, ". " + v);
        }
    }

    // The same sentence.
    private static void valuesBeyond() {
        Scene s = new Scene(due, ". 7");
        long[] beyond = {
            1_000_000_000_001L, -1_000_000_000_001L, 1_000_000_000_002L, 10_000_000_000_000L,
            Long.MAX_VALUE, Long.MIN_VALUE, Long.MIN_VALUE + 1,
        };
        for (long v : beyond) {
            s.refuses(ARGUMENT, "put 0 0 0 " + v);
            s.refuses(ARGUMENT, "put 0 0 1 " + v);
            s.refuses(ARGUMENT, "put 0 0 2 " + v);
            s.refuses(ARGUMENT, "put 6 0 0 " + v);
        }
    }

    // Promise 3, "The entry at a place becomes v.": also a full register takes another value.
    private static void putWhereOneIs() {
        String full = Grid.even(8, 8, "4");
        new Scene(due, full).gives("put 0 7 7 0", 0, 0, Grid.with(full, 7, 7, "0"));
        new Scene(due, full).gives("put 0 0 0 4", 0, 0, full);
        new Scene(due, "0 .").gives("put 0 0 0 0", 0, 0, "0 .");
    }

    // Promise 4, "The entry at a place goes: whether there was one."
    private static void dropWhereNoneIs() {
        Scene s = new Scene(due, "0 . -3");
        s.gives("drop 0 0 0", 1, 0, ". . -3");
        s.answers("drop 0 0 1", 0);
        s.gives("drop 0 0 2", 1, 0, "0 . .");
        SemiringDesk x = s.desk();
        due.is("drop", x.drop(0, 0, 0), true);
        due.is("drop again", x.drop(0, 0, 0), false);
        x.put(0, 0, 0, 8);
        due.is("drop what came again", x.drop(0, 0, 0), true);
        due.is("drop the last", x.drop(0, 0, 2), true);
        due.is("nothing is left", Grid.read(x, 0), ". . .");
    }

    // Promise 5, "NoSuchElementException when it has no entry."
    private static void atWhereNoneIs() {
        Scene s = new Scene(due, "0 . -3");
        s.answers("at 0 0 0", 0);
        s.refuses(NONE, "at 0 0 1");
        s.answers("at 0 0 2", -3);
        SemiringDesk x = s.desk();
        x.drop(0, 0, 2);
        due.is("at what was dropped", Call.outcome(x, "at 0 0 2"), NONE.getName());
        x.shape(0, 1, 3);
        due.is("at what was shaped", Call.outcome(x, "at 0 0 0"), NONE.getName());
    }

    // Promise 6, "How many rows, plus 16 times the columns, plus 256 times the entries."
    private static void leastAndGreatestSize() {
        new Scene(due).answers("size 0", 17);
        new Scene(due, "0").answers("size 0", 17 + 256);
        new Scene(due, Grid.even(1, 8, ".")).answers("size 0", 1 + 16 * 8);
        new Scene(due, Grid.even(8, 1, ".")).answers("size 0", 8 + 16);
        new Scene(due, Grid.even(8, 8, ".")).answers("size 0", 8 + 16 * 8);
        String full = Grid.even(8, 8, "0");
        new Scene(due, Grid.with(full, 7, 7, ".")).answers("size 0", 8 + 16 * 8 + 256 * 63);
        new Scene(due, full).answers("size 0", 8 + 16 * 8 + 256 * 64);
    }
}
