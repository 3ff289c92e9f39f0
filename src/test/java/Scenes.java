/** Texts of calls that make paths, for Script. */
final class Scenes {
    private Scenes() {
    }

    /** An open path of corners at x, y, x, y, .. */
    static String open(int path, int... units) {
        StringBuilder calls = new StringBuilder("addPath(" + units[0] + ", " + units[1] + ")");
        for (int k = 2; k < units.length; k += 2) {
            calls.append("; extend(" + path + ", " + units[k] + ", " + units[k + 1] + ")");
        }
        return calls.toString();
    }

    static String closed(int path, int... units) {
        return open(path, units) + "; join(" + path + ", " + path + ")";
    }

    /** An open path of corners at 0, y and 1, y and 2, y .. */
    static String row(int path, int nodes, int y) {
        int[] units = new int[2 * nodes];
        for (int k = 0; k < nodes; k++) {
            units[2 * k] = k;
            units[2 * k + 1] = y;
        }
        return open(path, units);
    }

    static String closedRow(int path, int nodes, int y) {
        return row(path, nodes, y) + "; join(" + path + ", " + path + ")";
    }

    /** Paths of one node each, at 0, 0 and 1, 1 and 2, 2 .. */
    static String dots(int paths) {
        StringBuilder calls = new StringBuilder();
        for (int k = 0; k < paths; k++) {
            calls.append(k == 0 ? "" : "; ").append("addPath(" + k + ", " + k + ")");
        }
        return calls.toString();
    }

    static String times(int count, String calls) {
        return String.join("; ", java.util.Collections.nCopies(count, calls));
    }

    /** Where path 0 has its only node at 1, 0 (in units), this makes it 1, 0 in parts. */
    static String toParts(int path) {
        return times(6, "transform(" + path + ", 1, 0, 0, 1, 6)");
    }
}
