import java.util.NoSuchElementException;

/** Promises 13 to 16: levels, paths, triangles, components. */
public final class GraphsTest {
    private static final Due due = new Due();

    public static void main(String[] args) {
        levels();
        levelsRefuses();
        paths();
        pathsOfManyWays();
        pathsRange();
        pathsCircles();
        triangles();
        components();
        wrongArguments();
        notSquare();
        due.end();
    }

    private static SemiringDesk graph(String text) {
        return Grid.write(new SemiringDesk(), 0, text);
    }

    /** Eight vertices in a row, each with a way of this length from the one to the next. */
    private static SemiringDesk row(long length, boolean backwards) {
        SemiringDesk x = new SemiringDesk();
        x.shape(0, 8, 8);
        for (int i = 0; i < 7; i++) {
            x.put(0, backwards ? i + 1 : i, backwards ? i : i + 1, length);
        }
        return x;
    }

    private static void levels() {
        SemiringDesk x = graph("0 5 . . / . . -2 . / 1 . . . / 7 . . .");
        due.is("levels counts", x.levels(1, 0, 0), 3);
        due.is("levels", Grid.read(x, 1), "0 1 2 .");
        due.is("levels of 3", x.levels(1, 0, 3), 4);
        due.is("levels of 3", Grid.read(x, 1), "1 2 3 0");
        x.put(0, 3, 2, 0);
        x.levels(1, 0, 3);
        due.is("the least number of ways", Grid.read(x, 1), "1 2 1 0");
        x.levels(0, 0, 1);
        due.is("levels in place", Grid.read(x, 0), "2 0 1 .");
        due.is("levels of one vertex", x.levels(5, 5, 0), 1);
        due.is("levels of one vertex", Grid.read(x, 5), "0");
        SemiringDesk long8 = row(1, true);
        long8.levels(1, 0, 7);
        due.is("levels of eight in a row", Grid.read(long8, 1), "7 6 5 4 3 2 1 0");
        long8.levels(1, 0, 0);
        due.is("levels against the ways", Grid.read(long8, 1), "0 . . . . . . .");
    }

    private static void levelsRefuses() {
        SemiringDesk x = graph("1 1 / 1 1");
        for (int wrong : new int[] {-1, 2, Integer.MIN_VALUE, Integer.MAX_VALUE}) {
            due.failsAndKeeps(NoSuchElementException.class, x, "levels of " + wrong, () -> x.levels(0, 0, wrong));
            due.fails(IllegalArgumentException.class, "levels to 6 of " + wrong, () -> x.levels(6, 0, wrong));
        }
        Grid.write(x, 0, "1 1");
        due.fails(IllegalStateException.class, "levels of no graph and no vertex", () -> x.levels(0, 0, 9));
    }

    private static void paths() {
        SemiringDesk x = graph(". 4 1 . / . . . 1 / . 2 . 7 / . . . .");
        due.is("paths counts", x.paths(1, 0), 10);
        due.is("paths", Grid.read(x, 1), "0 3 1 4 / . 0 . 1 / . 2 0 3 / . . . 0");
        due.is("a is left alone", Grid.read(x, 0), ". 4 1 . / . . . 1 / . 2 . 7 / . . . .");
        due.is("paths in place", x.paths(0, 0), 10);
        due.is("paths in place", Grid.read(x, 0), "0 3 1 4 / . 0 . 1 / . 2 0 3 / . . . 0");
        Grid.write(x, 0, "9 -2 / 2 0");
        due.is("a circle of sum 0", x.paths(1, 0), 4);
        due.is("a circle of sum 0", Grid.read(x, 1), "0 -2 / 2 0");
        due.is("paths of one vertex", x.paths(1, 5), 1);
        due.is("paths of one vertex", Grid.read(x, 1), "0");
        Grid.write(x, 0, ". 5 2 / . . . / . -7 .");
        x.paths(1, 0);
        due.is("more ways, but less", Grid.read(x, 1), "0 -5 2 / . 0 . / . -7 0");
    }

    private static void pathsOfManyWays() {
        for (long length : new long[] {-1_000_000_000L, 1_000_000_000L}) {
            for (boolean backwards : new boolean[] {false, true}) {
                SemiringDesk x = row(length, backwards);
                due.is("paths of eight in a row", x.paths(1, 0), 36);
                due.is("from end to end", x.at(1, backwards ? 7 : 0, backwards ? 0 : 7), 7 * length);
                due.is("in the middle", x.at(1, backwards ? 5 : 2, backwards ? 2 : 5), 3 * length);
            }
        }
    }

    private static void pathsRange() {
        for (String wrong : new String[] {"1000000001", "-1000000001", "1000000000000", "-1000000000000"}) {
            SemiringDesk x = graph(". " + wrong + " / . -1");
            due.failsAndKeeps(UnsupportedOperationException.class, x, "paths with " + wrong, () -> x.paths(1, 0));
            due.fails(IllegalArgumentException.class, "paths to 6 with " + wrong, () -> x.paths(6, 0));
            Grid.write(x, 0, wrong + " 1");
            due.fails(IllegalStateException.class, "paths of no graph with " + wrong, () -> x.paths(1, 0));
        }
        SemiringDesk x = graph("1000000000 -1000000000 / 1000000000 .");
        x.paths(1, 0);
        due.is("the longest ways", Grid.read(x, 1), "0 -1000000000 / 1000000000 0");
    }

    private static void pathsCircles() {
        String[] circles = {
            "-1", ". . / . -1", ". 1 / -2 .", ". . . / . . -5 / . 4 .", ". 1 . / . . 1 / -3 . .",
        };
        for (String circle : circles) {
            SemiringDesk x = graph(circle);
            due.failsAndKeeps(NoSuchElementException.class, x, "paths of " + circle, () -> x.paths(1, 0));
            due.failsAndKeeps(NoSuchElementException.class, x, "paths in place of " + circle, () -> x.paths(0, 0));
        }
        SemiringDesk x = row(1, false);
        x.put(0, 7, 0, -7);
        due.is("a long circle of sum 0", x.paths(1, 0), 64);
        x.put(0, 7, 0, -8);
        due.fails(NoSuchElementException.class, "a long circle", () -> x.paths(1, 0));
        x.shape(0, 8, 8);
        for (int place = 0; place < 64; place++) {
            x.put(0, place / 8, place % 8, -1_000_000_000L);
        }
        due.failsAndKeeps(NoSuchElementException.class, x, "all circles", () -> x.paths(1, 0));
        for (int i = 0; i < 8; i++) {
            x.drop(0, i, i);
        }
        due.failsAndKeeps(NoSuchElementException.class, x, "all circles of two", () -> x.paths(1, 0));
    }

    private static void triangles() {
        SemiringDesk x = graph(". . . / 1 . . / 0 -5 .");
        due.is("one triangle", x.triangles(0), 1);
        due.is("triangles leaves all alone", Grid.readAll(x), ". . . / 1 . . / 0 -5 . | . | . | . | . | .");
        for (int[] place : new int[][] {{1, 0}, {2, 0}, {2, 1}}) {
            SemiringDesk y = graph(". . . / 1 . . / 1 1 .");
            y.drop(0, place[0], place[1]);
            due.is("one way is missing", y.triangles(0), 0);
            y.put(0, place[1], place[0], 1);
            due.is("one way goes the other way", y.triangles(0), 0);
        }
        x.transpose(0, 0);
        due.is("above the diagonal", x.triangles(0), 0);
        Grid.write(x, 0, "1 1 1 1 / 1 1 1 1 / 1 1 1 1 / 1 1 1 1");
        due.is("four vertices", x.triangles(0), 4);
        Grid.write(x, 0, "1 1 / 1 1");
        due.is("two vertices", x.triangles(0), 0);
        x.shape(0, 8, 8);
        for (int place = 0; place < 64; place++) {
            x.put(0, place / 8, place % 8, 0);
        }
        due.is("eight vertices", x.triangles(0), 56);
    }

    private static void components() {
        SemiringDesk x = graph(". . . . . / . . . . 0 / 3 . . . . / . . . 9 . / . . . . .");
        due.is("components counts", x.components(1, 0), 5);
        due.is("components", Grid.read(x, 1), "0 1 0 3 1");
        x.put(0, 4, 2, -1);
        x.components(1, 0);
        due.is("components joined", Grid.read(x, 1), "0 0 0 3 0");
        x.components(0, 0);
        due.is("components in place", Grid.read(x, 0), "0 0 0 3 0");
        due.is("components of one vertex", x.components(1, 5), 1);
        due.is("components of one vertex", Grid.read(x, 1), "0");
        for (boolean backwards : new boolean[] {false, true}) {
            SemiringDesk y = row(1, backwards);
            due.is("eight in a row", y.components(1, 0), 8);
            due.is("eight in a row", Grid.read(y, 1), "0 0 0 0 0 0 0 0");
        }
        Grid.write(x, 0, ". . . 1 . . . . / . . . 1 . . . . / . . . . . 1 . 1 / . . . . . . 1 . "
                + "/ . . . . . . 1 1 / . . . . . . . . / . . . . . . . . / . . . . . . . .");
        x.components(1, 0);
        due.is("to and fro", Grid.read(x, 1), "0 0 0 0 0 0 0 0");
    }

    private static void wrongArguments() {
        for (int wrong : new int[] {-1, 6, Integer.MIN_VALUE, Integer.MAX_VALUE}) {
            SemiringDesk x = graph("1 2");
            refuses(x, IllegalArgumentException.class, "levels to " + wrong, () -> x.levels(wrong, 0, 0));
            refuses(x, IllegalArgumentException.class, "levels a " + wrong, () -> x.levels(0, wrong, 0));
            refuses(x, IllegalArgumentException.class, "paths to " + wrong, () -> x.paths(wrong, 0));
            refuses(x, IllegalArgumentException.class, "paths a " + wrong, () -> x.paths(0, wrong));
            refuses(x, IllegalArgumentException.class, "triangles " + wrong, () -> x.triangles(wrong));
            refuses(x, IllegalArgumentException.class, "components to " + wrong, () -> x.components(wrong, 0));
            refuses(x, IllegalArgumentException.class, "components a " + wrong, () -> x.components(0, wrong));
        }
    }

    private static void notSquare() {
        for (String wrong : new String[] {"1 2", "1 / 2", "1 2 3 / 4 5 6", ". / ."}) {
            SemiringDesk x = graph(wrong);
            refuses(x, IllegalStateException.class, "levels of " + wrong, () -> x.levels(0, 0, 0));
            refuses(x, IllegalStateException.class, "paths of " + wrong, () -> x.paths(0, 0));
            refuses(x, IllegalStateException.class, "triangles of " + wrong, () -> x.triangles(0));
            refuses(x, IllegalStateException.class, "components of " + wrong, () -> x.components(0, 0));
        }
    }

    private static void refuses(SemiringDesk x, Class<? extends RuntimeException> e, String call, Runnable action) {
        due.failsAndKeeps(e, x, call, action);
    }
}
