import java.util.NoSuchElementException;

/** Promises 1 to 6: a new object, shape, put, drop, at, size. */
public final class RegistersTest {
    private static final long MOST = 1_000_000_000_000L;
    private static final Due due = new Due();

    public static void main(String[] args) {
        newObject();
        shape();
        put();
        wrongPlaces();
        drop();
        at();
        size();
        wrongRegisters();
        due.end();
    }

    private static void newObject() {
        SemiringDesk x = new SemiringDesk();
        due.is("a new object", Grid.readAll(x), ". | . | . | . | . | .");
        SemiringDesk y = new SemiringDesk();
        y.put(0, 0, 0, 5);
        due.is("another object", Grid.read(x, 0), ".");
    }

    private static void shape() {
        SemiringDesk x = Grid.write(new SemiringDesk(), 1, "1 2 / 3 4");
        x.shape(1, 2, 2);
        due.is("the same shape again", Grid.read(x, 1), ". . / . .");
        x.shape(1, 8, 8);
        x.put(1, 7, 7, 1);
        x.put(1, 0, 7, 1);
        due.is("size of 8 times 8", x.size(1), 8 + 16 * 8 + 256 * 2);
        x.shape(1, 1, 1);
        x.shape(1, 8, 8);
        due.is("no entry comes back", x.size(1), 8 + 16 * 8);
        x.shape(1, 2, 3);
        due.is("rows and columns", Grid.read(x, 1), ". . . / . . .");
        due.is("the others", Grid.read(x, 0) + Grid.read(x, 2), "..");
        x.put(1, 1, 2, 9);
        for (int wrong : new int[] {0, 9, -1, Integer.MIN_VALUE, Integer.MAX_VALUE}) {
            refuses(x, "shape rows " + wrong, () -> x.shape(1, wrong, 1));
            refuses(x, "shape columns " + wrong, () -> x.shape(1, 1, wrong));
        }
    }

    private static void put() {
        SemiringDesk x = new SemiringDesk();
        x.shape(5, 2, 3);
        x.put(5, 1, 2, MOST);
        x.put(5, 0, 1, -MOST);
        x.put(5, 1, 0, 0);
        due.is("put", Grid.read(x, 5), ". -" + MOST + " . / 0 . " + MOST);
        x.put(5, 1, 0, 7);
        x.put(5, 1, 0, -7);
        due.is("put again", Grid.read(x, 5), ". -" + MOST + " . / -7 . " + MOST);
        refuses(x, "put beyond the range", () -> x.put(5, 0, 0, MOST + 1));
        refuses(x, "put below the range", () -> x.put(5, 0, 0, -MOST - 1));
        refuses(x, "put the greatest long", () -> x.put(5, 0, 0, Long.MAX_VALUE));
        refuses(x, "put the least long", () -> x.put(5, 0, 0, Long.MIN_VALUE));
    }

    private static void wrongPlaces() {
        int[][] wrong = {{2, 0}, {0, 3}, {-1, 0}, {0, -1}, {Integer.MAX_VALUE, 0}, {0, Integer.MIN_VALUE}};
        for (int[] w : wrong) {
            SemiringDesk x = Grid.write(new SemiringDesk(), 5, "1 . 2 / 3 4 .");
            refuses(x, "put at " + w[0] + " " + w[1], () -> x.put(5, w[0], w[1], 1));
            refuses(x, "drop at " + w[0] + " " + w[1], () -> x.drop(5, w[0], w[1]));
            refuses(x, "at of " + w[0] + " " + w[1], () -> x.at(5, w[0], w[1]));
        }
    }

    private static void drop() {
        SemiringDesk x = Grid.write(new SemiringDesk(), 2, "0 4 / . 5");
        due.is("drop an entry 0", x.drop(2, 0, 0), true);
        due.is("drop it again", x.drop(2, 0, 0), false);
        due.is("drop where none was", x.drop(2, 1, 0), false);
        due.is("drop the last", x.drop(2, 1, 1), true);
        due.is("after drop", Grid.read(x, 2), ". 4 / . .");
        x.put(2, 0, 0, 6);
        due.is("put after drop", Grid.read(x, 2), "6 4 / . .");
    }

    private static void at() {
        SemiringDesk x = Grid.write(new SemiringDesk(), 0, "0 . 3");
        due.is("at an entry 0", x.at(0, 0, 0), 0);
        due.is("at", x.at(0, 0, 2), 3);
        due.failsAndKeeps(NoSuchElementException.class, x, "at no entry", () -> x.at(0, 0, 1));
    }

    private static void size() {
        SemiringDesk x = new SemiringDesk();
        due.is("size at first", x.size(5), 17);
        Grid.write(x, 5, "1 . 0 / . . -2");
        due.is("size", x.size(5), 2 + 16 * 3 + 256 * 3);
    }

    private static void wrongRegisters() {
        for (int r : new int[] {-1, 6, Integer.MIN_VALUE, Integer.MAX_VALUE}) {
            SemiringDesk x = new SemiringDesk();
            refuses(x, "shape " + r, () -> x.shape(r, 1, 1));
            refuses(x, "put " + r, () -> x.put(r, 0, 0, 1));
            refuses(x, "drop " + r, () -> x.drop(r, 0, 0));
            refuses(x, "at " + r, () -> x.at(r, 0, 0));
            refuses(x, "size " + r, () -> x.size(r));
        }
    }

    private static void refuses(SemiringDesk x, String call, Runnable action) {
        due.failsAndKeeps(IllegalArgumentException.class, x, call, action);
    }
}
