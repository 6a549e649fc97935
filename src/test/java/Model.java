import java.math.BigInteger;
import java.util.ArrayList;
import java.util.List;
import java.util.NoSuchElementException;
import java.util.TreeSet;

/**
 * The document once more, written otherwise than the program: fresh tables for every call, sums of
 * lists, numbers without a limit, and graphs searched by walks instead of in rounds over entries.
 */
final class Model {
    private static final BigInteger MOST = BigInteger.valueOf(1_000_000_000_000L);
    private final Long[][][] registers = new Long[6][1][1];

    /** Does one call by its number (the order of the document's face). */
    long call(int number, int[] n, long v) {
        switch (number) {
            case 0: return shape(n[0], n[1], n[2]);
            case 1: return put(n[0], n[1], n[2], v);
            case 2: return drop(n[0], n[1], n[2]);
            case 3: return at(n[0], n[1], n[2]);
            case 4: return size(n[0]);
            case 5: return multiply(n[0], n[1], n[2], n[3], n[4], n[5]);
            case 6: return pairwise(n[0], n[1], n[2], n[3], true);
            case 7: return pairwise(n[0], n[1], n[2], n[3], false);
            case 8: return transpose(n[0], n[1]);
            case 9: return select(n[0], n[1], n[2], v);
            case 10: return reduce(n[0], n[1]);
            case 11: return levels(n[0], n[1], n[2]);
            case 12: return paths(n[0], n[1]);
            case 13: return triangles(n[0]);
            default: return components(n[0], n[1]);
        }
    }

    String text() {
        List<String> texts = new ArrayList<>();
        for (Long[][] m : registers) {
            List<String> rows = new ArrayList<>();
            for (Long[] row : m) {
                List<String> cells = new ArrayList<>();
                for (Long v : row) {
                    cells.add(v == null ? "." : v.toString());
                }
                rows.add(String.join(" ", cells));
            }
            texts.add(String.join(" / ", rows));
        }
        return String.join(" | ", texts);
    }

    private long shape(int r, int rows, int columns) {
        argument(isRegister(r) && rows >= 1 && rows <= 8 && columns >= 1 && columns <= 8);
        registers[r] = new Long[rows][columns];
        return 0;
    }

    private long put(int r, int i, int j, long v) {
        argument(isPlace(r, i, j) && BigInteger.valueOf(v).abs().compareTo(MOST) <= 0);
        registers[r][i][j] = v;
        return 0;
    }

    private long drop(int r, int i, int j) {
        argument(isPlace(r, i, j));
        boolean was = registers[r][i][j] != null;
        registers[r][i][j] = null;
        return was ? 1 : 0;
    }

    private long at(int r, int i, int j) {
        argument(isPlace(r, i, j));
        element(registers[r][i][j] != null);
        return registers[r][i][j];
    }

    private long size(int r) {
        argument(isRegister(r));
        return registers[r].length + 16L * registers[r][0].length + 256L * count(registers[r]);
    }

    private long multiply(int to, int a, int b, int k, int mask, int how) {
        argument(isRegister(to) && isRegister(a) && isRegister(b) && isSemiring(k));
        argument(mask == -1 || isRegister(mask));
        argument(how == 0 || how == 1 || how == 2 || how == 3);
        boolean added = how >= 2;
        Long[][] x = registers[a];
        Long[][] y = registers[b];
        Long[][] result = new Long[x.length][y[0].length];
        state(x[0].length == y.length);
        state(mask == -1 || isSame(registers[mask], result));
        state(!added || isSame(registers[to], result));
        for (int i = 0; i < result.length; i++) {
            for (int j = 0; j < result[0].length; j++) {
                List<Long> products = new ArrayList<>();
                boolean wanted = mask == -1 || (registers[mask][i][j] == null) == (how % 2 == 1);
                for (int t = 0; t < y.length && wanted; t++) {
                    if (x[i][t] != null && y[t][j] != null) {
                        products.add(product(k, x[i][t], y[t][j]));
                    }
                }
                Long found = total(k, products);
                List<Long> both = new ArrayList<>();
                if (added && registers[to][i][j] != null) {
                    both.add(registers[to][i][j]);
                }
                if (found != null) {
                    both.add(found);
                }
                result[i][j] = withoutZero(k, total(k, both));
            }
        }
        return keep(to, result);
    }

    private long pairwise(int to, int a, int b, int k, boolean sums) {
        argument(isRegister(to) && isRegister(a) && isRegister(b) && isSemiring(k));
        Long[][] x = registers[a];
        Long[][] y = registers[b];
        state(isSame(x, y));
        Long[][] result = new Long[x.length][x[0].length];
        for (int i = 0; i < x.length; i++) {
            for (int j = 0; j < x[0].length; j++) {
                Long v;
                if (x[i][j] != null && y[i][j] != null) {
                    v = sums ? sum(k, x[i][j], y[i][j]) : product(k, x[i][j], y[i][j]);
                } else {
                    v = !sums ? null : x[i][j] != null ? x[i][j] : y[i][j];
                }
                result[i][j] = withoutZero(k, v);
            }
        }
        return keep(to, result);
    }

    private long transpose(int to, int a) {
        argument(isRegister(to) && isRegister(a));
        Long[][] x = registers[a];
        Long[][] result = new Long[x[0].length][x.length];
        for (int i = 0; i < result.length; i++) {
            for (int j = 0; j < result[0].length; j++) {
                result[i][j] = x[j][i];
            }
        }
        return keep(to, result);
    }

    private long select(int to, int a, int how, long limit) {
        argument(isRegister(to) && isRegister(a) && how >= 0 && how <= 4);
        Long[][] x = registers[a];
        Long[][] result = new Long[x.length][x[0].length];
        for (int i = 0; i < x.length; i++) {
            for (int j = 0; j < x[0].length; j++) {
                Long v = x[i][j];
                boolean[] holds = {v != null && v < limit, v != null && v > limit, i < j, i > j, i == j};
                result[i][j] = holds[how] ? v : null;
            }
        }
        return keep(to, result);
    }

    private long reduce(int a, int k) {
        argument(isRegister(a) && isSemiring(k));
        List<Long> all = new ArrayList<>();
        for (Long[] row : registers[a]) {
            for (Long v : row) {
                if (v != null) {
                    all.add(v);
                }
            }
        }
        element(!all.isEmpty());
        return total(k, all);
    }

    private long levels(int to, int a, int source) {
        argument(isRegister(to) && isRegister(a));
        Long[][] x = registers[a];
        state(x.length == x[0].length);
        element(source >= 0 && source < x.length);
        Long[][] result = new Long[1][x.length];
        List<Integer> queue = new ArrayList<>(List.of(source));
        result[0][source] = 0L;
        for (int head = 0; head < queue.size(); head++) {
            int i = queue.get(head);
            for (int j = 0; j < x.length; j++) {
                if (x[i][j] != null && result[0][j] == null) {
                    result[0][j] = result[0][i] + 1;
                    queue.add(j);
                }
            }
        }
        return keep(to, result);
    }

    /** Walks of at most n ways: if the n-th way still shortens one, there is a circle below 0. */
    private long paths(int to, int a) {
        argument(isRegister(to) && isRegister(a));
        Long[][] x = registers[a];
        int n = x.length;
        state(n == x[0].length);
        for (Long[] row : x) {
            for (Long v : row) {
                supported(v == null || Math.abs(v) <= 1_000_000_000L);
            }
        }
        Long[][] walks = new Long[n][n];
        for (int i = 0; i < n; i++) {
            walks[i][i] = 0L;
        }
        for (int ways = 1; ways < n; ways++) {
            walks = oneWayMore(walks, x);
        }
        Long[][] longer = oneWayMore(walks, x);
        for (int place = 0; place < n * n; place++) {
            Long v = walks[place / n][place % n];
            element(v == null || v.equals(longer[place / n][place % n]));
        }
        return keep(to, walks);
    }

    private static Long[][] oneWayMore(Long[][] walks, Long[][] x) {
        int n = x.length;
        Long[][] longer = new Long[n][n];
        for (int i = 0; i < n; i++) {
            for (int j = 0; j < n; j++) {
                longer[i][j] = walks[i][j];
                for (int t = 0; t < n; t++) {
                    if (walks[i][t] != null && x[t][j] != null) {
                        long length = walks[i][t] + x[t][j];
                        longer[i][j] = longer[i][j] == null ? length : Math.min(longer[i][j], length);
                    }
                }
            }
        }
        return longer;
    }

    private long triangles(int a) {
        argument(isRegister(a));
        Long[][] x = registers[a];
        int n = x.length;
        state(n == x[0].length);
        long found = 0;
        for (int triple = 0; triple < n * n * n; triple++) {
            int i = triple % n;
            int j = triple / n % n;
            int t = triple / n / n;
            found += i < j && j < t && x[j][i] != null && x[t][i] != null && x[t][j] != null ? 1 : 0;
        }
        return found;
    }

    private long components(int to, int a) {
        argument(isRegister(to) && isRegister(a));
        Long[][] x = registers[a];
        state(x.length == x[0].length);
        Long[][] result = new Long[1][x.length];
        for (int j = 0; j < x.length; j++) {
            TreeSet<Integer> seen = new TreeSet<>();
            visit(x, j, seen);
            result[0][j] = (long) seen.first();
        }
        return keep(to, result);
    }

    private static void visit(Long[][] x, int i, TreeSet<Integer> seen) {
        if (seen.add(i)) {
            for (int j = 0; j < x.length; j++) {
                if (x[i][j] != null || x[j][i] != null) {
                    visit(x, j, seen);
                }
            }
        }
    }

    private long keep(int to, Long[][] result) {
        registers[to] = result;
        return count(result);
    }

    private static Long total(int k, List<Long> all) {
        Long total = null;
        for (Long v : all) {
            total = total == null ? v : sum(k, total, v);
        }
        return total;
    }

    private static Long sum(int k, long x, long y) {
        if (k == 0) {
            return ranged(BigInteger.valueOf(x).add(BigInteger.valueOf(y)));
        }
        return k == 1 ? (x < y ? x : y) : k == 2 ? (x == 0 && y == 0 ? 0L : 1L) : (x > y ? x : y);
    }

    private static Long product(int k, long x, long y) {
        if (k == 0) {
            return ranged(BigInteger.valueOf(x).multiply(BigInteger.valueOf(y)));
        }
        return k == 1 ? sum(0, x, y) : k == 2 ? (x == 0 || y == 0 ? 0L : 1L) : (x < y ? x : y);
    }

    private static Long ranged(BigInteger v) {
        supported(v.abs().compareTo(MOST) <= 0);
        return v.longValueExact();
    }

    private static Long withoutZero(int k, Long v) {
        return v != null && v == 0 && k % 2 == 0 ? null : v;
    }

    private static int count(Long[][] m) {
        int found = 0;
        for (Long[] row : m) {
            for (Long v : row) {
                found += v == null ? 0 : 1;
            }
        }
        return found;
    }

    private static boolean isRegister(int r) {
        return r >= 0 && r <= 5;
    }

    private static boolean isSemiring(int k) {
        return k >= 0 && k <= 3;
    }

    private boolean isPlace(int r, int i, int j) {
        return isRegister(r) && i >= 0 && i < registers[r].length && j >= 0 && j < registers[r][0].length;
    }

    private static boolean isSame(Long[][] x, Long[][] y) {
        return x.length == y.length && x[0].length == y[0].length;
    }

    private static void argument(boolean holds) {
        if (!holds) {
            throw new IllegalArgumentException();
        }
    }

    private static void state(boolean holds) {
        if (!holds) {
            throw new IllegalStateException();
        }
    }

    private static void supported(boolean holds) {
        if (!holds) {
            throw new UnsupportedOperationException();
        }
    }

    private static void element(boolean holds) {
        if (!holds) {
            throw new NoSuchElementException();
        }
    }
}
