import java.util.NoSuchElementException;

/** Promises 13 to 16: each sentence that names a boundary, from both sides. */
public final class GraphsBoundsTest {
    private static final Class<IllegalArgumentException> ARGUMENT = IllegalArgumentException.class;
    private static final Class<IllegalStateException> STATE = IllegalStateException.class;
    private static final Class<UnsupportedOperationException> RANGE = UnsupportedOperationException.class;
    private static final Class<NoSuchElementException> NONE = NoSuchElementException.class;
    private static final String MOST = "1000000000000";
    private static final String FAR = "1000000000";
    private static final Due due = new Due();

    public static void main(String[] args) {
        asManyRowsAsColumns();
        sourceIsVertexOrNot();
        vertexToWhichOneComes();
        leastNumberOfWays();
        lengthsWithin();
        lengthsBeyond();
        alwaysFromItselfToItself();
        leastSums();
        longestSums();
        circlesOfOneWay();
        circlesOfTwoWays();
        circlesOfEightWays();
        circlesApart();
        greatestCircles();
        triples();
        tripleWithoutOne();
        mostTriples();
        entryAtEachVertex();
        eitherDirection();
        due.end();
    }

    /** Eight vertices in a row: a way of this length from each to the next. */
    private static String row(String length) {
        String text = Grid.even(8, 8, ".");
        for (int i = 0; i < 7; i++) {
            text = Grid.with(text, i, i + 1, length);
        }
        return text;
    }

    // Promises 13 to 16, "IllegalStateException when a has not as many rows as columns"
    private static void asManyRowsAsColumns() {
        for (int rows = 1; rows <= 8; rows++) {
            for (int columns = 1; columns <= 8; columns++) {
                Scene s = new Scene(due, Grid.even(rows, columns, "."));
                if (rows == columns) {
                    s.gives("levels 5 0 0", 1, 5, Grid.with(Grid.even(1, columns, "."), 0, 0, "0"));
                    due.is("paths of " + rows, Call.outcome(s.desk(), "paths 5 0"), "" + rows);
                    s.answers("triangles 0", 0);
                    due.is("components of " + rows, Call.outcome(s.desk(), "components 5 0"), "" + rows);
                } else {
                    s.refuses(STATE, "levels 5 0 0");
                    s.refuses(STATE, "levels 0 0 0");
                    s.refuses(STATE, "paths 5 0");
                    s.refuses(STATE, "paths 0 0");
                    s.refuses(STATE, "triangles 0");
                    s.refuses(STATE, "components 5 0");
                    s.refuses(STATE, "components 0 0");
                }
            }
        }
        // The register to need not have as many.
        Scene s = new Scene(due, "1", "2 2 2");
        s.gives("levels 1 0 0", 1, 1, "0");
        s.gives("paths 1 0", 1, 1, "0");
        s.gives("components 1 0", 1, 1, "0");
    }

    // Promise 13, "NoSuchElementException when the source is no vertex."
    private static void sourceIsVertexOrNot() {
        for (int n = 1; n <= 8; n++) {
            String none = Grid.even(n, n, ".");
            Scene s = new Scene(due, none);
            s.gives("levels 5 0 0", 1, 5, Grid.with(Grid.even(1, n, "."), 0, 0, "0"));
            s.gives("levels 0 0 " + (n - 1), 1, 0, Grid.with(Grid.even(1, n, "."), 0, n - 1, "0"));
            for (int source : new int[] {-1, n, n + 1, Integer.MIN_VALUE, Integer.MAX_VALUE}) {
                s.refuses(NONE, "levels 5 0 " + source);
                s.refuses(NONE, "levels 0 0 " + source);
                s.refuses(ARGUMENT, "levels 6 0 " + source);
                s.refuses(ARGUMENT, "levels 0 -1 " + source);
            }
        }
    }

    // Promise 13, "an entry at (0, j) for each vertex j to which one comes from the source"
    private static void vertexToWhichOneComes() {
        Scene s = new Scene(due, ". 0 . / . . . / 1 . .", "5 . / . .", Grid.even(8, 8, "0"));
        s.gives("levels 5 0 0", 2, 5, "0 1 .");
        s.gives("levels 5 0 1", 1, 5, ". 0 .");
        s.gives("levels 5 0 2", 3, 5, "1 2 0");
        s.gives("levels 5 1 0", 1, 5, "0 .");
        s.gives("levels 5 2 7", 8, 5, "1 1 1 1 1 1 1 0");
    }

    // Promise 13, "the least number of ways on that (0 for the source)"
    private static void leastNumberOfWays() {
        Scene s = new Scene(due, row("-1"), Grid.with(row("3"), 0, 7, "0"), Grid.with(row("3"), 7, 0, MOST));
        s.gives("levels 5 0 0", 8, 5, "0 1 2 3 4 5 6 7");
        s.gives("levels 5 0 7", 1, 5, ". . . . . . . 0");
        s.gives("levels 5 1 0", 8, 5, "0 1 2 3 4 5 6 1");
        s.gives("levels 5 2 7", 8, 5, "1 2 3 4 5 6 7 0");
        new Scene(due, "9 9 / 9 9").gives("levels 0 0 1", 2, 0, "1 0");
    }

    // Promise 14, "UnsupportedOperationException when an entry is not from -10^9 to 10^9"
    private static void lengthsWithin() {
        Scene s = new Scene(due, ". " + FAR + " / . .", ". -" + FAR + " / . .", FAR, "0");
        s.gives("paths 5 0", 3, 5, "0 " + FAR + " / . 0");
        s.gives("paths 5 1", 3, 5, "0 -" + FAR + " / . 0");
        s.gives("paths 5 2", 1, 5, "0");
        s.gives("paths 5 3", 1, 5, "0");
        for (int i = 0; i < 3; i++) {
            for (int j = 0; j < 3; j++) {
                String far = Grid.with(Grid.even(3, 3, "."), i, j, FAR);
                new Scene(due, far).gives("paths 5 0", i == j ? 3 : 4, 5,
                        Grid.with(Grid.with(Grid.with(Grid.with(far, 0, 0, "0"), 1, 1, "0"), 2, 2, "0"),
                                i, j, i == j ? "0" : FAR));
            }
        }
    }

    // The same sentence: wherever the entry is, and also when no least sum has it in it
    private static void lengthsBeyond() {
        for (String v : new String[] {"1000000001", "-1000000001", MOST, "-" + MOST}) {
            for (int i = 0; i < 3; i++) {
                for (int j = 0; j < 3; j++) {
                    Scene alone = new Scene(due, Grid.with(Grid.even(3, 3, "."), i, j, v));
                    alone.refuses(RANGE, "paths 5 0");
                    alone.refuses(RANGE, "paths 0 0");
                    Scene among = new Scene(due, Grid.with(Grid.even(3, 3, "0"), i, j, v));
                    among.refuses(RANGE, "paths 5 0");
                    // The other calls don't ask for lengths.
                    among.gives("components 5 0", 3, 5, "0 0 0");
                    among.gives("levels 5 0 0", 3, 5, "0 1 1");
                    among.answers("triangles 0", 1);
                }
            }
            new Scene(due, Grid.with(row("1"), 7, 7, v)).refuses(RANGE, "paths 5 0");
        }
    }

    // Promise 14, "an entry at (i, j) if one comes from i to j (for i = j always) ... (0 for none)"
    private static void alwaysFromItselfToItself() {
        Scene s = new Scene(due, ".", ". . / . .", "4 . / . .", "0 . / . 5", ". 2 / . .");
        s.gives("paths 5 0", 1, 5, "0");
        s.gives("paths 5 1", 2, 5, "0 . / . 0");
        s.gives("paths 5 2", 2, 5, "0 . / . 0");
        s.gives("paths 5 3", 2, 5, "0 . / . 0");
        s.gives("paths 5 4", 3, 5, "0 2 / . 0");
    }

    // Promise 14, "the least sum of the lengths of ways on that one goes one after the other"
    private static void leastSums() {
        new Scene(due, ". 5 2 / . . . / . 3 .").gives("paths 5 0", 6, 5, "0 5 2 / . 0 . / . 3 0");
        new Scene(due, ". 5 2 / . . . / . 2 .").gives("paths 5 0", 6, 5, "0 4 2 / . 0 . / . 2 0");
        new Scene(due, ". 5 2 / . . . / . 4 .").gives("paths 5 0", 6, 5, "0 5 2 / . 0 . / . 4 0");
        new Scene(due, ". 0 0 / . . . / . -1 .").gives("paths 5 0", 6, 5, "0 -1 0 / . 0 . / . -1 0");
    }

    // The same: seven ways one after the other are the most
    private static void longestSums() {
        for (String sign : new String[] {"", "-"}) {
            String want = Grid.even(8, 8, ".");
            for (int i = 0; i < 8; i++) {
                for (int j = i; j < 8; j++) {
                    want = Grid.with(want, i, j, i == j ? "0" : sign + (j - i) + "000000000");
                }
            }
            Scene s = new Scene(due, row(sign + FAR));
            s.gives("paths 5 0", 36, 5, want);
            s.gives("paths 0 0", 36, 0, want);
        }
    }

    // Promise 14, "NoSuchElementException when there is no least one: one can go in a circle whose
    // sum is less than 0."
    private static void circlesOfOneWay() {
        for (int i = 0; i < 3; i++) {
            String none = Grid.even(3, 3, ".");
            Scene below = new Scene(due, Grid.with(none, i, i, "-1"));
            below.refuses(NONE, "paths 5 0");
            below.refuses(NONE, "paths 0 0");
            new Scene(due, Grid.with(none, i, i, "-" + FAR)).refuses(NONE, "paths 5 0");
            new Scene(due, Grid.with(none, i, i, "0")).gives("paths 5 0", 3, 5, "0 . . / . 0 . / . . 0");
            new Scene(due, Grid.with(none, i, i, "1")).gives("paths 5 0", 3, 5, "0 . . / . 0 . / . . 0");
        }
    }

    // The same sentence.
    private static void circlesOfTwoWays() {
        new Scene(due, ". 3 / -3 .").gives("paths 5 0", 4, 5, "0 3 / -3 0");
        new Scene(due, ". 3 / -2 .").gives("paths 5 0", 4, 5, "0 3 / -2 0");
        new Scene(due, ". 3 / -4 .").refuses(NONE, "paths 5 0");
        new Scene(due, ". -4 / 3 .").refuses(NONE, "paths 0 0");
        new Scene(due, ". " + FAR + " / -" + FAR + " .").gives("paths 5 0", 4, 5, "0 " + FAR + " / -" + FAR + " 0");
        new Scene(due, ". 999999999 / -" + FAR + " .").refuses(NONE, "paths 5 0");
        // A way back that is below 0 alone is no circle.
        new Scene(due, ". . / -4 .").gives("paths 5 0", 3, 5, "0 . / -4 0");
    }

    // The same sentence: the circle that goes through all vertices
    private static void circlesOfEightWays() {
        Scene zero = new Scene(due, Grid.with(row("1"), 7, 0, "-7"));
        String want = Grid.even(8, 8, ".");
        for (int i = 0; i < 8; i++) {
            for (int j = 0; j < 8; j++) {
                want = Grid.with(want, i, j, "" + (j - i));
            }
        }
        zero.gives("paths 5 0", 64, 5, want);
        new Scene(due, Grid.with(row("1"), 7, 0, "-8")).refuses(NONE, "paths 5 0");
        new Scene(due, Grid.with(row("1"), 7, 0, "-8")).refuses(NONE, "paths 0 0");
        new Scene(due, Grid.with(row("-1"), 7, 0, "6")).refuses(NONE, "paths 5 0");
        SemiringDesk back = new Scene(due, Grid.with(row("-1"), 7, 0, "7")).desk();
        due.is("a circle of -7 and 7", Call.outcome(back, "paths 5 0"), "64");
    }

    // The same sentence: wherever the circle is, also if no other vertex comes to it
    private static void circlesApart() {
        new Scene(due, ". 1 . / . . . / . . -1").refuses(NONE, "paths 5 0");
        new Scene(due, ". . . / . . -2 / . 1 .").refuses(NONE, "paths 5 0");
        new Scene(due, ". . . / . . -2 / . 2 .").gives("paths 5 0", 5, 5, "0 . . / . 0 -2 / . 2 0");
        new Scene(due, "-1 5 . / . . 5 / . . .").refuses(NONE, "paths 5 0");
        new Scene(due, ". 5 . / . . 5 / . . -1").refuses(NONE, "paths 5 0");
        new Scene(due, Grid.with(Grid.even(8, 8, "."), 7, 7, "-1")).refuses(NONE, "paths 5 0");
    }

    // The same sentence: however far below 0, it is told as a circle, not as a sum out of range
    private static void greatestCircles() {
        String all = Grid.even(8, 8, "-" + FAR);
        Scene s = new Scene(due, all);
        s.refuses(NONE, "paths 5 0");
        s.refuses(NONE, "paths 0 0");
        String noLoops = all;
        for (int i = 0; i < 8; i++) {
            noLoops = Grid.with(noLoops, i, i, ".");
        }
        new Scene(due, noLoops).refuses(NONE, "paths 5 0");
        new Scene(due, Grid.with(row("-" + FAR), 7, 0, "-" + FAR)).refuses(NONE, "paths 5 0");
        new Scene(due, Grid.with(row("-" + FAR), 7, 0, FAR)).refuses(NONE, "paths 5 0");
    }

    // Promise 15, "How many triples i < j < t there are"
    private static void triples() {
        for (int n = 1; n <= 8; n++) {
            Scene s = new Scene(due, Grid.even(n, n, "0"));
            s.answers("triangles 0", n * (n - 1) * (n - 2) / 6);
        }
    }

    // Promise 15, "with entries at (j, i), (t, i) and (t, j)"
    private static void tripleWithoutOne() {
        String three = ". . . / 1 . . / 1 1 .";
        new Scene(due, three).answers("triangles 0", 1);
        new Scene(due, ". . . / 0 . . / -1 " + MOST + " .").answers("triangles 0", 1);
        for (int[] p : new int[][] {{1, 0}, {2, 0}, {2, 1}}) {
            String two = Grid.with(three, p[0], p[1], ".");
            new Scene(due, two).answers("triangles 0", 0);
            new Scene(due, Grid.with(two, p[1], p[0], "1")).answers("triangles 0", 0);
        }
        new Scene(due, ". 1 1 / . . 1 / . . .").answers("triangles 0", 0);
        // i, j and t are three: an entry at (i, i) does not stand for another vertex.
        new Scene(due, "1 . . / 1 1 . / . . 1").answers("triangles 0", 0);
        new Scene(due, "1 1 / 1 1").answers("triangles 0", 0);
    }

    // Promise 15: the last triple of the largest graph, and one way less than all
    private static void mostTriples() {
        String none = Grid.even(8, 8, ".");
        String last = Grid.with(Grid.with(Grid.with(none, 6, 5, "1"), 7, 5, "1"), 7, 6, "1");
        new Scene(due, last).answers("triangles 0", 1);
        new Scene(due, Grid.with(last, 7, 6, ".")).answers("triangles 0", 0);
        new Scene(due, Grid.with(Grid.even(8, 8, "1"), 7, 6, ".")).answers("triangles 0", 50);
        new Scene(due, Grid.with(Grid.even(8, 8, "1"), 1, 0, ".")).answers("triangles 0", 50);
        new Scene(due, Grid.with(Grid.even(8, 8, "1"), 0, 1, ".")).answers("triangles 0", 56);
    }

    // Promise 16, "an entry at each (0, j)"
    private static void entryAtEachVertex() {
        for (int n = 1; n <= 8; n++) {
            String apart = "0 1 2 3 4 5 6 7".substring(0, 2 * n - 1);
            String loops = Grid.even(n, n, ".");
            for (int i = 0; i < n; i++) {
                loops = Grid.with(loops, i, i, "3");
            }
            new Scene(due, Grid.even(n, n, ".")).gives("components 5 0", n, 5, apart);
            new Scene(due, loops).gives("components 0 0", n, 0, apart);
            new Scene(due, Grid.even(n, n, "0")).gives("components 0 0", n, 0, Grid.even(1, n, "0"));
        }
    }

    // Promise 16, "the least vertex to which one comes from j, going on ways in either direction"
    private static void eitherDirection() {
        Scene s = new Scene(due, ". . . / . . 1 / . . .", ". . . / . . . / . 1 .", ". 1 . / . . . / . 1 .");
        s.gives("components 5 0", 3, 5, "0 1 1");
        s.gives("components 5 1", 3, 5, "0 1 1");
        s.gives("components 5 2", 3, 5, "0 0 0");
        SemiringDesk x = new Scene(due, row("0")).desk();
        x.components(1, 0);
        x.transpose(0, 0);
        x.components(2, 0);
        due.is("a row of eight", Grid.read(x, 1), Grid.even(1, 8, "0"));
        due.is("a row of eight the other way", Grid.read(x, 2), Grid.even(1, 8, "0"));
        new Scene(due, Grid.with(row("0"), 3, 4, ".")).gives("components 5 0", 8, 5, "0 0 0 0 4 4 4 4");
        // The least vertex is at the far end of ways that lead to and fro.
        String far = Grid.even(8, 8, ".");
        int[][] ways = {{7, 1}, {7, 2}, {6, 2}, {6, 3}, {5, 3}, {5, 4}, {4, 0}};
        for (int[] way : ways) {
            far = Grid.with(far, way[0], way[1], "1");
        }
        new Scene(due, far).gives("components 5 0", 8, 5, Grid.even(1, 8, "0"));
        new Scene(due, Grid.with(far, 4, 0, ".")).gives("components 5 0", 8, 5, "0 1 1 1 1 1 1 1");
    }
}
