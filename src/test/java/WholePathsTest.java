/** Splitting, joining, reversing and removing nodes: every node that they can be done at, and what becomes of it. */
public final class WholePathsTest {
    private static final int NOT_POSSIBLE = Script.NOT_POSSIBLE;
    private static final int FULL = Script.FULL;
    private static final int NONE = Script.NONE;
    private static final int U = Script.U;

    private WholePathsTest() {
    }

    public static void main(String[] args) {
        for (int nodes = 1; nodes <= 12; nodes++) {
            for (int node = 0; node < nodes; node++) {
                splitOpen(nodes, node);
                removeNode(nodes, node, false);
                if (nodes >= 2) {
                    splitClosed(nodes, node);
                    removeNode(nodes, node, true);
                }
            }
            reverse(nodes, false);
            if (nodes >= 2) {
                reverse(nodes, true);
            }
            closeWithASegment(nodes);
            closeByOneNode(nodes);
        }
        splitCopies();
        joinedRatios();
        nearlyAtOnePosition();
        apart();
        handlesOfNoSegment();
        positionsThatRepeat();
        Due.end();
    }

    /** Nodes at 0, 1, 2 .., of which each is smooth with a ratio of its own: its number and 1 to 2. */
    private static String smoothRow(int nodes, boolean closed) {
        StringBuilder calls = new StringBuilder(closed ? Scenes.closedRow(0, nodes, 0) : Scenes.row(0, nodes, 0));
        for (int k = 0; k < nodes; k++) {
            calls.append("; setHandle(0, " + k + ", true, 0, 2); setSmooth(0, " + k + ", " + (2 * k + 1) + ", 2)");
        }
        return calls.toString();
    }

    private static void dueSmooth(Script script, int path, int node, int x) {
        script.dueNode(path, node, x * U, 0, 0, -(2 * x + 1) * U, 0, 2 * U, 2 * x + 1, 2);
    }

    private static void splitOpen(int nodes, int node) {
        Script script = new Script(smoothRow(nodes, false));
        if (node == 0 || node == nodes - 1) {
            script.due("split(0, " + node + ")", NOT_POSSIBLE).due("paths()", 1).due("nodes(0)", nodes);
            return;
        }
        script.due("split(0, " + node + ")", 2).due("nodes(0)", node + 1).due("nodes(1)", nodes - node)
            .due("isClosed(0)", 0).due("isClosed(1)", 0);
        for (int k = 0; k < nodes; k++) {
            if (k <= node) {
                dueSmooth(script, 0, k, k);
            }
            if (k >= node) {
                dueSmooth(script, 1, k - node, k);
            }
        }
        script.due("join(0, 1)", nodes).due("paths()", 1);
        dueSmooth(script, 0, node, node);
    }

    private static void splitClosed(int nodes, int node) {
        Script script = new Script(smoothRow(nodes, true));
        if (nodes == 12) {
            script.due("split(0, " + node + ")", FULL).due("isClosed(0)", 1).due("nodes(0)", 12);
            return;
        }
        script.due("split(0, " + node + ")", 1).due("nodes(0)", nodes + 1).due("isClosed(0)", 0);
        for (int k = 0; k <= nodes; k++) {
            dueSmooth(script, 0, k, (node + k) % nodes);
        }
        script.due("join(0, 0)", nodes).due("isClosed(0)", 1);
        dueSmooth(script, 0, 0, node);
    }

    private static void removeNode(int nodes, int node, boolean closed) {
        Script script = new Script(smoothRow(nodes, closed)).due("removeNode(0, " + node + ")", nodes - 1)
            .due("paths()", nodes == 1 ? 0 : 1);
        if (nodes > 1) {
            script.due("isClosed(0)", closed && nodes > 2 ? 1 : 0).due("nodes(0)", nodes - 1);
        }
        for (int k = 0; k < nodes - 1; k++) {
            dueSmooth(script, 0, k, k < node ? k : k + 1);
        }
    }

    private static void reverse(int nodes, boolean closed) {
        Script script = new Script(smoothRow(nodes, closed), "setCorner(0, 0)").due("reverse(0)", nodes)
            .due("isClosed(0)", closed ? 1 : 0);
        for (int k = 0; k < nodes; k++) {
            int x = nodes - 1 - k;
            script.dueNode(0, k, x * U, 0, 0, 2 * U, 0, -(2 * x + 1) * U, x == 0 ? NONE : 2,
                x == 0 ? NONE : 2 * x + 1);
        }
        long sum = new Script(smoothRow(nodes, closed)).answer("checksum()");
        new Script(smoothRow(nodes, closed)).due("reverse(0)", nodes).due("reverse(0)", nodes).due("checksum()", sum);
    }

    // ---- join

    private static void closeWithASegment(int nodes) {
        Script script = new Script(smoothRow(nodes, false));
        if (nodes == 1) {
            script.due("join(0, 0)", NOT_POSSIBLE).due("isClosed(0)", 0);
            return;
        }
        script.due("join(0, 0)", nodes).due("isClosed(0)", 1).due("nodes(0)", nodes).due("join(0, 0)", NOT_POSSIBLE);
        for (int k = 0; k < nodes; k++) {
            dueSmooth(script, 0, k, k);
        }
    }

    private static void closeByOneNode(int nodes) {
        Script script = new Script(smoothRow(nodes, false), "moveNode(0, " + (nodes - 1) + ", " + (1 - nodes) + ", 0)");
        if (nodes <= 2) {
            script.due("join(0, 0)", NOT_POSSIBLE).due("isClosed(0)", 0).due("nodes(0)", nodes);
            return;
        }
        script.due("join(0, 0)", nodes - 1).due("isClosed(0)", 1).due("nodes(0)", nodes - 1)
            .dueNode(0, 0, 0, 0, 0, -(2 * nodes - 1) * U, 0, 2 * U, NONE, NONE);
        for (int k = 1; k < nodes - 1; k++) {
            dueSmooth(script, 0, k, k);
        }
    }

    /** Both copies can be changed without the other. */
    private static void splitCopies() {
        new Script(smoothRow(3, false)).due("split(0, 1)", 2).due("setHandle(1, 0, true, 4, 0)", 1)
            .dueNode(1, 0, U, 0, -6 * U, 0, 4 * U, 0, 3, 2).dueNode(0, 1, U, 0, 0, -3 * U, 0, 2 * U, 3, 2)
            .due("setCorner(0, 1)", 1).due("ratio(1, 0, false)", 3).due("moveNode(0, 1, 5, 5)", 6 * U)
            .due("coordinate(1, 0, 0)", U);
        new Script(smoothRow(3, true)).due("split(0, 1)", 1).due("setHandle(0, 3, true, 4, 0)", 1)
            .dueNode(0, 3, U, 0, -6 * U, 0, 4 * U, 0, 3, 2).dueNode(0, 0, U, 0, 0, -3 * U, 0, 2 * U, 3, 2)
            .due("join(0, 0)", 3).dueNode(0, 0, U, 0, -6 * U, 0, 0, 2 * U, NONE, NONE);
        new Script(Scenes.row(0, 3, 0), "setHandle(0, 1, true, 1, 2); setHandle(0, 1, false, 3, 4)")
            .due("split(0, 1)", 2).dueNode(0, 1, U, 0, 3 * U, 4 * U, U, 2 * U, NONE, NONE)
            .dueNode(1, 0, U, 0, 3 * U, 4 * U, U, 2 * U, NONE, NONE);
    }

    /** The ratio of the former and of the latter, the in-handle of one, the out-handle of the other; smooth or not. */
    private static void joinedRatios() {
        int[][] cases = {
            {1, 2, 1, 2, -2, -3, 4, 6, 1}, {1, 2, 2, 4, -2, -3, 4, 6, 1}, {3, 6, 1, 2, -2, 3, 4, -6, 1},
            {1, 2, 1, 2, -2, -3, 4, 5, 0}, {1, 2, 1, 2, -2, -3, 5, 6, 0}, {1, 2, 1, 2, 2, 3, 4, 6, 0},
            {1, 2, 1, 2, -2, 3, 4, 6, 0}, {1, 2, 2, 1, -2, -3, 4, 6, 0}, {1, 2, 1, 3, -2, -3, 4, 6, 0},
            {1, 2, 1, 2, 0, 0, 0, 0, 1}, {1, 2, 1, 2, 0, 0, 4, 6, 0}, {1, 2, 1, 2, -2, -3, 0, 0, 0},
            {1, 2, 3, 2, 0, 0, 0, 0, 0}, {1, 2, 0, 0, -2, -3, 4, 6, 0}, {0, 0, 1, 2, -2, -3, 4, 6, 0},
            {0, 0, 0, 0, -2, -3, 4, 6, 0}, {0, 0, 0, 0, 0, 0, 0, 0, 0}, {1, 1, 1, 1, -200, 200, 200, -200, 1},
            {999, 1, 999, 1, 0, 0, 0, 0, 1}, {998, 999, 998, 999, 0, 0, 0, 0, 1}, {999, 998, 998, 999, 0, 0, 0, 0, 0}
        };
        for (int[] c : cases) {
            String first = "setHandle(0, 2, false, " + c[4] + ", " + c[5] + "); setSmooth(0, 2, " + c[0] + ", "
                + c[1] + ")";
            String second = "setHandle(#, 0, true, " + c[6] + ", " + c[7] + "); setSmooth(#, 0, " + c[2] + ", "
                + c[3] + ")";
            long p = c[8] == 1 ? c[0] : NONE;
            long q = c[8] == 1 ? c[1] : NONE;
            if (c[0] == 3) {
                p = 1;
                q = 2;
            }
            new Script(Scenes.open(0, 0, 0, 5, 0, 7, 7), Scenes.open(1, 7, 7, 9, 9), first, second.replace("#", "1"))
                .due("join(0, 1)", 4)
                .dueNode(0, 2, 7 * U, 7 * U, c[4] * U, c[5] * U, c[6] * U, c[7] * U, p, q).dueX(0, 0, 5, 7, 9);
            new Script(Scenes.open(0, 7, 7, 5, 0, 7, 7), first, second.replace("#", "0")).due("join(0, 0)", 2)
                .dueNode(0, 0, 7 * U, 7 * U, c[4] * U, c[5] * U, c[6] * U, c[7] * U, p, q).dueX(0, 7, 5);
        }
    }

    private static void nearlyAtOnePosition() {
        new Script(Scenes.open(0, 0, 0, 5, 6), Scenes.open(1, 5, 7, 9, 9)).due("join(0, 1)", 4).dueX(0, 0, 5, 5, 9);
        new Script(Scenes.open(0, 0, 0, 5, 6), Scenes.open(1, 4, 6, 9, 9)).due("join(0, 1)", 4).dueX(0, 0, 5, 4, 9);
        new Script(Scenes.open(0, 0, 0, 5, 6), Scenes.open(1, 6, 5, 9, 9)).due("join(0, 1)", 4).dueX(0, 0, 5, 6, 9);
        new Script(Scenes.open(0, 0, 0, 5, 6), Scenes.open(1, 5, 6, 9, 9)).due("join(1, 0)", 4).dueX(0, 5, 9, 0, 5);
        new Script(Scenes.open(0, 0, 0, 5, 6), Scenes.open(1, 5, 6, 9, 9)).due("join(0, 1)", 3).dueX(0, 0, 5, 9);
        String part = Scenes.open(0, 1, 0) + "; " + Scenes.toParts(0) + "; " + Scenes.open(1, 0, 0);
        new Script(part).due("join(0, 1)", 2).due("coordinate(0, 0, 0)", 1).due("coordinate(0, 1, 0)", 0);
        new Script(part).due("shift(1, 1, 0)", 1).due(Scenes.toParts(1).split("; ")[0], 1)
            .make(Scenes.times(5, "transform(1, 1, 0, 0, 1, 6)")).due("join(1, 0)", 1).due("coordinate(0, 0, 0)", 1);
    }

    /** With a segment between them both nodes stay as they are, smooth or not. */
    private static void apart() {
        new Script(Scenes.open(0, 0, 0, 5, 0), Scenes.open(1, 7, 0, 9, 0), "setHandle(0, 1, true, 1, 2)",
            "setSmooth(0, 1, 3, 1); setHandle(1, 0, false, 3, 6); setHandle(1, 0, true, 4, 4)").due("join(0, 1)", 4)
            .dueNode(0, 1, 5 * U, 0, -3 * U, -6 * U, U, 2 * U, 3, 1)
            .dueNode(0, 2, 7 * U, 0, 3 * U, 6 * U, 4 * U, 4 * U, NONE, NONE).due("corners(0)", 1)
            .due("box(0, 1)", 11 * U).due("box(0, 3)", 6 * U).due("point(0, 1, 1, 2, true)", 3 * U);
    }

    // ---- handles that belong to no segment, positions that repeat

    private static void handlesOfNoSegment() {
        String scene = Scenes.open(0, 0, 0, 6, 0, 6, 6)
            + "; setHandle(0, 0, false, -50, -60); setHandle(0, 2, true, 70, 80)";
        new Script(scene).due("box(0, 0)", 0).due("box(0, 1)", 6 * U).due("box(0, 2)", 0).due("box(0, 3)", 6 * U)
            .due("print(0)", 12).duePrinted("M0 0L6 0L6 6").due("point(0, 0, 1, 2, false)", 3 * U)
            .due("setSmooth(0, 0, 5, 6)", 0).dueNode(0, 0, 0, 0, -50 * U, -60 * U, 60 * U, 72 * U, 5, 6)
            .due("setHandle(0, 0, true, 0, 0)", 1).dueNode(0, 0, 0, 0, 0, 0, 0, 0, 5, 6).due("corners(0)", 1);
        new Script(scene).due("join(0, 0)", 3).due("box(0, 0)", -50 * U).due("box(0, 1)", 76 * U)
            .due("box(0, 2)", -60 * U).due("box(0, 3)", 86 * U).due("print(0)", NOT_POSSIBLE)
            .due("removeNode(0, 1)", 2).due("isClosed(0)", 1).due("removeNode(0, 1)", 1).due("box(0, 0)", 0)
            .due("box(0, 1)", 0).due("print(0)", 4).duePrinted("M0 0").due("coordinate(0, 0, 2)", -50 * U);
        new Script(scene).due("reverse(0)", 3).dueNode(0, 0, 6 * U, 6 * U, 70 * U, 80 * U, 0, 0, NONE, NONE)
            .dueNode(0, 2, 0, 0, 0, 0, -50 * U, -60 * U, NONE, NONE).due("box(0, 1)", 6 * U).due("print(0)", 12)
            .due("transform(0, 2, 0, 0, 3, 1)", Script.OUT_OF_RANGE).due("transform(0, 2, 0, 0, 2, 1)", 3)
            .dueNode(0, 0, 12 * U, 12 * U, 140 * U, 160 * U, 0, 0, NONE, NONE);
    }

    private static void positionsThatRepeat() {
        new Script(Scenes.open(0, 3, 3, 5, 5, 5, 5), Scenes.open(1, 5, 5, 3, 3)).due("find(5, 5)", 1)
            .due("find(3, 3)", 0).due("removeNode(0, 1)", 2).due("find(5, 5)", 1).due("removeNode(0, 1)", 1)
            .due("find(5, 5)", 100).due("removePath(0)", 1).due("find(5, 5)", 0).due("find(3, 3)", 1)
            .due("reverse(0)", 2).due("find(5, 5)", 1);
        new Script(Scenes.dots(5), Scenes.row(5, 12, 9)).due("find(11, 9)", 511).due("find(0, 9)", 500)
            .due("find(4, 4)", 400).due("find(12, 9)", NONE);
    }
}
