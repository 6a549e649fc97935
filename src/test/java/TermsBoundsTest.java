import java.util.NoSuchElementException;

/** What "Terms" says of all promises: each sentence that names a boundary, from both sides. */
public final class TermsBoundsTest {
    private static final Class<IllegalArgumentException> ARGUMENT = IllegalArgumentException.class;
    private static final Class<IllegalStateException> STATE = IllegalStateException.class;
    private static final Class<UnsupportedOperationException> RANGE = UnsupportedOperationException.class;
    private static final Class<NoSuchElementException> NONE = NoSuchElementException.class;
    private static final String MOST = "1000000000000";
    private static final Due due = new Due();

    public static void main(String[] args) {
        registersThatAre();
        registersThatAreNot();
        semiringsThatAre();
        semiringsThatAreNot();
        ofEqualOnes();
        noZerosOverPlusTimes();
        noZerosOverOrAnd();
        zerosElsewhere();
        toMayBeAnother();
        rowsAndColumnsToo();
        tallAndWide();
        howManyEntries();
        sumsOnTheWay();
        productsOnTheWay();
        argumentsBeforeAll();
        stateBeforeRangeAndNone();
        rangeBeforeNone();
        changesNothing();
        lastCall();
        due.end();
    }

    /** One entry in each register, all of one row and column, so that every call fits. */
    private static Scene ones() {
        return new Scene(due, "2", "3", "5", "7", "11", "13");
    }

    // "There are the REGISTERS 0 .. 5"
    private static void registersThatAre() {
        Scene s = ones();
        String[] held = {"2", "3", "5", "7", "11", "13"};
        for (int r = 0; r < 6; r++) {
            long v = Long.parseLong(held[r]);
            s.gives("shape " + r + " 1 2", 0, r, ". .");
            s.gives("put " + r + " 0 0 -4", 0, r, "-4");
            s.gives("drop " + r + " 0 0", 1, r, ".");
            s.answers("at " + r + " 0 0", v);
            s.answers("size " + r, 1 + 16 + 256);
            s.gives("multiply " + r + " 0 1 0 -1 0", 1, r, "6");
            s.gives("multiply 0 " + r + " 1 0 -1 0", 1, 0, "" + 3 * v);
            s.gives("multiply 0 1 " + r + " 0 -1 0", 1, 0, "" + 3 * v);
            s.gives("multiply 0 1 2 0 " + r + " 0", 1, 0, "15");
            s.gives("multiply 0 1 2 0 " + r + " 1", 0, 0, ".");
            s.gives("add " + r + " 0 1 0", 1, r, "5");
            s.gives("add 0 " + r + " 1 0", 1, 0, "" + (v + 3));
            s.gives("add 0 1 " + r + " 0", 1, 0, "" + (v + 3));
            s.gives("each " + r + " 0 1 0", 1, r, "6");
            s.gives("each 0 " + r + " 1 0", 1, 0, "" + 3 * v);
            s.gives("each 0 1 " + r + " 0", 1, 0, "" + 3 * v);
            s.gives("transpose " + r + " 0", 1, r, "2");
            s.gives("transpose 0 " + r, 1, 0, held[r]);
            s.gives("select " + r + " 0 4 0", 1, r, "2");
            s.gives("select 0 " + r + " 4 0", 1, 0, held[r]);
            s.answers("reduce " + r + " 0", v);
            s.gives("levels " + r + " 0 0", 1, r, "0");
            s.gives("levels 0 " + r + " 0", 1, 0, "0");
            s.gives("paths " + r + " 0", 1, r, "0");
            s.gives("paths 0 " + r, 1, 0, "0");
            s.answers("triangles " + r, 0);
            s.gives("components " + r + " 0", 1, r, "0");
            s.gives("components 0 " + r, 1, 0, "0");
        }
    }

    // "For numbers of registers that are not 0 .. 5 ... IllegalArgumentException is thrown by all
    // calls that have such."
    private static void registersThatAreNot() {
        Scene s = ones();
        int[] none = {-1, 6, 7, -2, Integer.MIN_VALUE, Integer.MAX_VALUE};
        String[] calls = {
            "shape R 1 1", "put R 0 0 1", "drop R 0 0", "at R 0 0", "size R",
            "multiply R 0 1 0 -1 0", "multiply 0 R 1 0 -1 0", "multiply 0 1 R 0 -1 0",
            "add R 0 1 0", "add 0 R 1 0", "add 0 1 R 0", "each R 0 1 0", "each 0 R 1 0", "each 0 1 R 0",
            "transpose R 0", "transpose 0 R", "select R 0 0 9", "select 0 R 0 9", "reduce R 0",
            "levels R 0 0", "levels 0 R 0", "paths R 0", "paths 0 R", "triangles R",
            "components R 0", "components 0 R",
        };
        for (String call : calls) {
            for (int r : none) {
                s.refuses(ARGUMENT, call.replace("R", "" + r));
            }
        }
    }

    // "SEMIRINGS: 0 PLUS TIMES ... 1 LEAST PLUS ... 2 OR AND ... 3 GREATEST LEAST"
    private static void semiringsThatAre() {
        Scene s = new Scene(due, "4 -6", "3 / -5", "-6 4");
        String[] products = {"42", "-11", "1", "3"};
        String[] sums = {"-2 -2", "-6 -6", "1 1", "4 4"};
        String[] pairs = {"-24 -24", "-2 -2", "1 1", "-6 -6"};
        long[] totals = {-2, -6, 1, 4};
        for (int k = 0; k < 4; k++) {
            s.gives("multiply 5 0 1 " + k + " -1 0", 1, 5, products[k]);
            s.gives("add 5 0 2 " + k, 2, 5, sums[k]);
            s.gives("each 5 0 2 " + k, 2, 5, pairs[k]);
            s.answers("reduce 0 " + k, totals[k]);
        }
    }

    // "... and of semirings that are not 0 .. 3 IllegalArgumentException is thrown by all calls
    // that have such."
    private static void semiringsThatAreNot() {
        Scene s = ones();
        for (int k : new int[] {-1, 4, 5, Integer.MIN_VALUE, Integer.MAX_VALUE}) {
            s.refuses(ARGUMENT, "multiply 0 1 2 " + k + " -1 0");
            s.refuses(ARGUMENT, "add 0 1 2 " + k);
            s.refuses(ARGUMENT, "each 0 1 2 " + k);
            s.refuses(ARGUMENT, "reduce 0 " + k);
        }
    }

    // "(Of equal ones either.)"
    private static void ofEqualOnes() {
        for (String v : new String[] {"0", "7", "-7", MOST, "-" + MOST}) {
            Scene s = new Scene(due, v, v, v + " " + v);
            s.gives("add 5 0 1 1", 1, 5, v);
            s.gives("add 5 0 1 3", 1, 5, v);
            s.gives("each 5 0 1 3", 1, 5, v);
            s.answers("reduce 2 1", Long.parseLong(v));
            s.answers("reduce 2 3", Long.parseLong(v));
        }
    }

    // "What an operation over 0 or 2 would leave with the value 0 is no entry of its result."
    private static void noZerosOverPlusTimes() {
        Scene s = new Scene(due, "5 5 5", "-5 -4 -6", "1 1 1", "0 0 0", "0 1 -1");
        s.gives("add 5 0 1 0", 2, 5, ". 1 -1");
        s.gives("add 5 3 4 0", 2, 5, ". 1 -1");
        s.gives("each 5 2 4 0", 2, 5, ". 1 -1");
        Scene m = new Scene(due, "1 1", "5 5 5 / -5 -4 -6", "0 1 -1");
        m.gives("multiply 5 0 1 0 -1 0", 2, 5, ". 1 -1");
        m.gives("multiply 2 0 1 0 -1 2", 2, 2, ". 2 -2");
        new Scene(due, "1 1", "5 5 5 / -5 -4 -6", "3 -1 1").gives("multiply 2 0 1 0 -1 2", 1, 2, "3 . .");
        new Scene(due, "0", "0", "0").gives("multiply 2 0 1 0 -1 2", 0, 2, ".");
        new Scene(due, ".", ".", "0").gives("multiply 2 0 1 0 -1 2", 0, 2, ".");
        new Scene(due, "1", "1", "0", ".").gives("multiply 2 0 1 0 3 2", 0, 2, ".");
        new Scene(due, "0 .", ". 0").gives("add 5 0 1 0", 0, 5, ". .");
    }

    // The same sentence.
    private static void noZerosOverOrAnd() {
        Scene s = new Scene(due, "0 0 3 3", "0 -3 0 3");
        s.gives("add 5 0 1 2", 3, 5, ". 1 1 1");
        s.gives("each 5 0 1 2", 1, 5, ". . . 1");
        Scene m = new Scene(due, "0 3", "0 -3 3 / 0 0 0", "1 1 1 / 0 -3 0");
        m.gives("multiply 5 0 1 2 -1 0", 0, 5, ". . .");
        m.gives("multiply 5 0 2 2 -1 0", 1, 5, ". 1 .");
        new Scene(due, "0", "1", "0").gives("multiply 2 0 1 2 -1 2", 0, 2, ".");
        new Scene(due, ".", ".", "0").gives("multiply 2 0 1 2 -1 2", 0, 2, ".");
        new Scene(due, "1", "1", "0", ".").gives("multiply 2 0 1 2 3 2", 0, 2, ".");
        new Scene(due, "0 .", ". 0").gives("add 5 0 1 2", 0, 5, ". .");
    }

    // The same sentence: over 1 and 3, and where there is no semiring, a 0 is an entry.
    private static void zerosElsewhere() {
        Scene s = new Scene(due, "0", "0", "0");
        for (int k = 1; k < 4; k += 2) {
            s.gives("multiply 5 0 1 " + k + " -1 0", 1, 5, "0");
            s.gives("multiply 2 0 1 " + k + " -1 2", 1, 2, "0");
            s.gives("add 5 0 1 " + k, 1, 5, "0");
            s.gives("each 5 0 1 " + k, 1, 5, "0");
        }
        s.gives("transpose 5 0", 1, 5, "0");
        s.gives("select 5 0 4 0", 1, 5, "0");
        s.gives("levels 5 0 0", 1, 5, "0");
        s.gives("paths 5 0", 1, 5, "0");
        s.gives("components 5 0", 1, 5, "0");
    }

    // "... puts it into the register to (which may be one of the others) then": each call with
    // registers that are the same gives what it gives with copies of them in registers apart.
    private static void toMayBeAnother() {
        String[] texts = {"1 -2 / . 3", "4 . / 0 -1", ". 5 / 2 -3"};
        for (int to = 0; to < 3; to++) {
            for (int a = 0; a < 3; a++) {
                for (int b = 0; b < 3; b++) {
                    for (int k = 0; k < 4; k++) {
                        asApart(texts, to, a, b, k);
                    }
                }
                for (int how = 0; how < 5; how++) {
                    same(texts, to, "select T A " + how + " 1", to, a, a, a);
                }
                same(texts, to, "transpose T A", to, a, a, a);
                same(texts, to, "levels T A 0", to, a, a, a);
                same(texts, to, "levels T A 1", to, a, a, a);
                same(texts, to, "components T A", to, a, a, a);
            }
        }
        for (int to = 0; to < 2; to++) {
            for (int a = 0; a < 2; a++) {
                same(new String[] {". 4 / -3 1", "0 . / 7 ."}, to, "paths T A", to, a, a, a);
            }
        }
    }

    private static void asApart(String[] texts, int to, int a, int b, int k) {
        same(texts, to, "add T A B " + k, to, a, b, b);
        same(texts, to, "each T A B " + k, to, a, b, b);
        for (int how = 0; how < 4; how++) {
            same(texts, to, "multiply T A B " + k + " -1 " + how, to, a, b, b);
            for (int mask = 0; mask < 3; mask++) {
                same(texts, to, "multiply T A B " + k + " M " + how, to, a, b, mask);
            }
        }
    }

    private static void same(String[] texts, int r, String call, int to, int a, int b, int mask) {
        SemiringDesk apart = new Scene(due, texts[to], texts[a], texts[b], texts[mask]).desk();
        long answer = Long.parseLong(Call.outcome(apart, numbered(call, 0, 1, 2, 3)));
        new Scene(due, texts).gives(numbered(call, to, a, b, mask), answer, r, Grid.read(apart, 0));
    }

    private static String numbered(String call, int to, int a, int b, int mask) {
        return call.replace("T", "" + to).replace("A", "" + a).replace("B", "" + b).replace("M", "" + mask);
    }

    // "... puts it into the register to ... then, rows and columns too"
    private static void rowsAndColumnsToo() {
        String full = Grid.even(8, 8, "9");
        Scene s = new Scene(due, full, "2 . 1", "3", "1 / . / 2");
        s.gives("multiply 0 1 3 0 -1 0", 1, 0, "4");
        s.gives("add 0 2 2 0", 1, 0, "6");
        s.gives("each 0 1 1 0", 2, 0, "4 . 1");
        s.gives("transpose 0 1", 2, 0, "2 / . / 1");
        s.gives("select 0 3 3 0", 1, 0, ". / . / 2");
        s.gives("levels 0 2 0", 1, 0, "0");
        s.gives("paths 0 2", 1, 0, "0");
        s.gives("components 0 2", 1, 0, "0");
        s.gives("transpose 2 0", 64, 2, full);
        s.gives("levels 2 0 7", 8, 2, "1 1 1 1 1 1 1 0");
        s.gives("components 2 0", 8, 2, Grid.even(1, 8, "0"));
        // What a larger result left behind must not come back in a later, larger shape.
        SemiringDesk x = s.desk();
        x.transpose(0, 2);
        x.transpose(4, 1);
        x.shape(0, 8, 8);
        due.is("a register made smaller and larger", Grid.read(x, 0), Grid.even(8, 8, "."));
    }

    // "ROWS and COLUMNS (1 .. 8 each)": one of each with the most of the other
    private static void tallAndWide() {
        String tall = "1 / -2 / . / 0 / 3 / . / . / 4";
        String wide = "1 -2 . 0 3 . . 4";
        Scene s = new Scene(due, tall, wide, "2");
        s.gives("multiply 5 0 2 0 -1 0", 4, 5, "2 / -4 / . / . / 6 / . / . / 8");
        s.gives("multiply 5 0 2 1 0 0", 5, 5, "3 / 0 / . / 2 / 5 / . / . / 6");
        s.gives("multiply 0 0 2 0 -1 2", 4, 0, "3 / -6 / . / . / 9 / . / . / 12");
        s.gives("multiply 5 2 1 0 -1 0", 4, 5, "2 -4 . . 6 . . 8");
        s.gives("multiply 1 2 1 0 1 2", 4, 1, "3 -6 . . 9 . . 12");
        s.gives("multiply 5 1 0 0 -1 0", 1, 5, "30");
        s.gives("add 5 0 0 0", 4, 5, "2 / -4 / . / . / 6 / . / . / 8");
        s.gives("add 5 1 1 0", 4, 5, "2 -4 . . 6 . . 8");
        s.gives("each 5 0 0 0", 4, 5, "1 / 4 / . / . / 9 / . / . / 16");
        s.gives("each 5 1 1 0", 4, 5, "1 4 . . 9 . . 16");
        s.gives("transpose 5 0", 5, 5, wide);
        s.gives("transpose 5 1", 5, 5, tall);
        s.gives("select 5 0 1 0", 3, 5, "1 / . / . / . / 3 / . / . / 4");
        s.gives("select 5 1 1 0", 3, 5, "1 . . . 3 . . 4");
        s.answers("reduce 0 0", 6);
        s.answers("reduce 1 0", 6);
    }

    // "unless something else is said, it answers how many entries the result has"
    private static void howManyEntries() {
        Scene none = new Scene(due, Grid.even(8, 8, "."), Grid.even(8, 8, "."));
        Scene all = new Scene(due, Grid.even(8, 8, "1"), Grid.even(8, 8, "2"));
        for (String call : new String[] {
            "multiply 5 0 1 1 -1 0", "multiply 5 0 1 1 1 0", "add 5 0 1 1", "each 5 0 1 1", "transpose 5 0",
            "select 5 0 0 3",
        }) {
            none.gives(call, 0, 5, Grid.even(8, 8, "."));
            due.is(call + " of full ones", Call.outcome(all.desk(), call), "64");
        }
        none.gives("levels 5 0 0", 1, 5, "0 . . . . . . .");
        none.gives("components 5 0", 8, 5, "0 1 2 3 4 5 6 7");
        due.is("paths of none", Call.outcome(none.desk(), "paths 5 0"), "8");
        due.is("paths of all", Call.outcome(all.desk(), "paths 5 0"), "64");
        due.is("levels of all", Call.outcome(all.desk(), "levels 5 0 0"), "8");
    }

    // "When some sum or product on the way is not from -10^12 to 10^12,
    // UnsupportedOperationException is thrown.": sums.
    private static void sumsOnTheWay() {
        for (String sign : new String[] {"", "-"}) {
            String most = sign + MOST;
            String near = sign + "999999999999";
            String one = sign + "1";
            String back = sign.isEmpty() ? "-1" : "1";
            Scene s = new Scene(due, near, one, most, most + " " + one + " " + back, near + " " + one + " " + back);
            s.gives("add 5 0 1 0", 1, 5, most);
            s.refuses(RANGE, "add 5 2 1 0");
            s.refuses(RANGE, "add 5 1 2 0");
            s.refuses(RANGE, "reduce 3 0");
            s.answers("reduce 4 0", Long.parseLong(near));
            s.gives("each 5 0 1 1", 1, 5, most);
            s.refuses(RANGE, "each 5 2 1 1");
            Scene m = new Scene(due, most + " " + one + " " + back, near + " " + one + " " + back, "1 / 1 / 1",
                    one, near);
            m.refuses(RANGE, "multiply 5 0 2 0 -1 0");
            m.gives("multiply 5 1 2 0 -1 0", 1, 5, near);
            m.gives("multiply 5 3 4 1 -1 0", 1, 5, most);
        }
    }

    // The same sentence: products.
    private static void productsOnTheWay() {
        for (String sign : new String[] {"", "-"}) {
            Scene s = new Scene(due, sign + "1000000", "1000000", "1000001", sign + MOST, "1", "2");
            s.gives("each 0 0 1 0", 1, 0, sign + MOST);
            s.refuses(RANGE, "each 0 0 2 0");
            s.refuses(RANGE, "each 0 2 0 0");
            s.gives("each 0 3 4 0", 1, 0, sign + MOST);
            s.refuses(RANGE, "each 0 3 5 0");
            s.refuses(RANGE, "each 0 3 3 0");
            s.gives("multiply 0 0 1 0 -1 0", 1, 0, sign + MOST);
            s.refuses(RANGE, "multiply 0 0 2 0 -1 0");
            s.refuses(RANGE, "multiply 0 3 3 0 -1 0");
        }
        // 2^32 * 2^32 and the like are small again in a long that wraps around.
        Scene wraps = new Scene(due, "4294967296", "-4294967296", "8589934592", "6148914692", "3000000000");
        wraps.refuses(RANGE, "each 5 0 0 0");
        wraps.refuses(RANGE, "each 5 0 1 0");
        wraps.refuses(RANGE, "each 5 1 1 0");
        wraps.refuses(RANGE, "each 5 2 2 0");
        wraps.refuses(RANGE, "each 5 3 4 0");
        wraps.refuses(RANGE, "multiply 5 0 0 0 -1 0");
    }

    // "Of several exceptions the one named first is thrown": IllegalArgumentException is named
    // first everywhere.
    private static void argumentsBeforeAll() {
        // 0 and 1 can be multiplied but not added, 3 has a circle below 0, 4 and 5 have no entry.
        Scene s = new Scene(due, MOST + " 2", MOST + " / 3", "-1 " + MOST, MOST + " -1 / . -1", ".", ". .");
        String[] calls = {
            "multiply 6 0 2 0 -1 0", "multiply 5 0 2 4 -1 0", "multiply 5 0 2 0 6 0", "multiply 5 0 2 0 -2 0",
            "multiply 5 0 2 0 -1 4", "multiply 5 0 1 0 4 -1", "multiply 5 0 1 0 -1 4", "multiply 5 0 1 -1 -1 0",
            "add 6 0 1 0", "add 5 0 6 0", "add 5 0 1 4", "add 6 3 3 0", "add 3 3 3 -1",
            "each 6 0 1 0", "each 5 -1 1 0", "each 5 0 1 4", "each 6 3 3 0", "each 3 3 3 -1",
            "reduce 4 4", "reduce 4 -1", "reduce 6 0", "levels 6 0 0", "levels 6 3 2", "levels 6 0 9",
            "levels 5 6 9", "paths 6 0", "paths 6 2", "paths 6 3", "triangles 6", "components 6 0", "components 5 -1",
            "at 4 0 1", "at 5 1 0", "at 6 0 0", "select 6 0 5 0",
        };
        for (String call : calls) {
            s.refuses(ARGUMENT, call);
        }
    }

    // The same sentence: IllegalStateException is named before the others.
    private static void stateBeforeRangeAndNone() {
        Scene s = new Scene(due, MOST + " 2", MOST + " / 3", "-1 " + MOST, "1 1 / 1 1", MOST, "-1 / .");
        s.refuses(STATE, "multiply 3 0 2 0 -1 0");
        s.refuses(STATE, "multiply 3 0 1 0 3 0");
        s.refuses(STATE, "multiply 3 0 1 0 -1 2");
        s.refuses(STATE, "add 3 0 4 0");
        s.refuses(STATE, "each 3 0 4 0");
        s.refuses(STATE, "each 3 0 1 0");
        s.refuses(STATE, "levels 3 0 2");
        s.refuses(STATE, "levels 3 1 -1");
        s.refuses(STATE, "paths 3 0");
        s.refuses(STATE, "paths 3 2");
        s.refuses(STATE, "paths 3 5");
    }

    // The same sentence: paths names UnsupportedOperationException before NoSuchElementException.
    private static void rangeBeforeNone() {
        new Scene(due, "-1 . / . 1000000001").refuses(RANGE, "paths 5 0");
        new Scene(due, "-1000000001").refuses(RANGE, "paths 5 0");
        new Scene(due, "-1 . / . 1000000000").refuses(NONE, "paths 5 0");
        new Scene(due, "-1000000000").refuses(NONE, "paths 5 0");
    }

    // "a call that throws changes nothing": also when what it throws for comes last of all.
    private static void changesNothing() {
        String twos = Grid.even(4, 4, "2");
        String last = Grid.with(twos, 3, 3, MOST);
        Scene s = new Scene(due, twos, last, last);
        for (int to = 0; to < 4; to++) {
            s.refuses(RANGE, "add " + to + " 1 2 0");
            s.refuses(RANGE, "each " + to + " 1 2 0");
            s.refuses(RANGE, "each " + to + " 1 2 1");
            s.refuses(RANGE, "multiply " + to + " 1 2 0 -1 0");
            s.refuses(RANGE, "multiply " + to + " 1 2 1 -1 0");
            s.refuses(RANGE, "paths " + to + " 1");
            s.refuses(NONE, "levels " + to + " 1 4");
        }
        Scene circle = new Scene(due, Grid.with(Grid.even(4, 4, "2"), 3, 3, "-1"));
        circle.refuses(NONE, "paths 0 0");
        circle.refuses(NONE, "paths 1 0");
        // After refused calls the desk goes on as if they had not been.
        SemiringDesk x = s.desk();
        due.is("add refused", Call.outcome(x, "add 1 1 2 0"), RANGE.getName());
        due.is("multiply refused", Call.outcome(x, "multiply 0 1 2 0 -1 2"), RANGE.getName());
        due.is("paths refused", Call.outcome(x, "paths 2 2"), RANGE.getName());
        due.is("add after refused calls", Call.outcome(x, "add 3 0 0 0"), "16");
        due.is("add after refused calls", Grid.read(x, 3), Grid.even(4, 4, "4"));
        due.is("0 after refused calls", Grid.read(x, 0), twos);
        due.is("1 after refused calls", Grid.read(x, 1), last);
        due.is("2 after refused calls", Grid.read(x, 2), last);
    }

    // "An object is used for at most 512 calls after it has been made"
    private static void lastCall() {
        SemiringDesk x = new SemiringDesk();
        x.shape(0, 2, 2);
        for (int call = 2; call <= 509; call++) {
            x.put(0, call % 2, call / 2 % 2, call);
        }
        due.is("call 510", x.multiply(0, 0, 0, 1, 0, 3), 4);
        due.is("call 511", Call.outcome(x, "levels 0 0 2"), NONE.getName());
        due.is("call 512", x.at(0, 1, 1), 507);
    }
}
