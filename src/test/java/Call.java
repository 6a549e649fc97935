/**
 * Does a call that is written as a text, its name and its numbers, such as "put 0 1 2 -7": so what
 * a test tells of a call is what it did.
 */
final class Call {
    private Call() {
    }

    /** The answer (a boolean counts 1 or 0, no answer 0), or the name of what was thrown. */
    static String outcome(SemiringDesk desk, String text) {
        String[] words = text.split(" ");
        long[] n = new long[words.length - 1];
        for (int p = 0; p < n.length; p++) {
            n[p] = Long.parseLong(words[p + 1]);
        }
        try {
            return String.valueOf(answer(desk, words[0], n));
        } catch (RuntimeException e) {
            return e.getClass().getName();
        }
    }

    private static long answer(SemiringDesk x, String name, long[] n) {
        switch (name) {
            case "shape": x.shape(whole(n, 0), whole(n, 1), whole(n, 2)); return 0;
            case "put": x.put(whole(n, 0), whole(n, 1), whole(n, 2), n[3]); return 0;
            case "drop": return x.drop(whole(n, 0), whole(n, 1), whole(n, 2)) ? 1 : 0;
            case "at": return x.at(whole(n, 0), whole(n, 1), whole(n, 2));
            case "size": return x.size(whole(n, 0));
            case "multiply":
                return x.multiply(whole(n, 0), whole(n, 1), whole(n, 2), whole(n, 3), whole(n, 4), whole(n, 5));
            case "add": return x.add(whole(n, 0), whole(n, 1), whole(n, 2), whole(n, 3));
            case "each": return x.each(whole(n, 0), whole(n, 1), whole(n, 2), whole(n, 3));
            case "transpose": return x.transpose(whole(n, 0), whole(n, 1));
            case "select": return x.select(whole(n, 0), whole(n, 1), whole(n, 2), n[3]);
            case "reduce": return x.reduce(whole(n, 0), whole(n, 1));
            case "levels": return x.levels(whole(n, 0), whole(n, 1), whole(n, 2));
            case "paths": return x.paths(whole(n, 0), whole(n, 1));
            case "triangles": return x.triangles(whole(n, 0));
            case "components": return x.components(whole(n, 0), whole(n, 1));
            default: throw new Error("no such call: " + name);
        }
    }

    // A number too large for an int is a fault of the test, not an answer of the desk.
    private static int whole(long[] n, int p) {
        if (n[p] != (int) n[p]) {
            throw new Error("no int: " + n[p]);
        }
        return (int) n[p];
    }
}
