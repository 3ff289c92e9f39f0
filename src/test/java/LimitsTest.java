/** Coordinates at the edge: exactly 200 units and one part more, whole parts and halves of one; ratios above 999. */
public final class LimitsTest {
    private static final int INEXACT = Script.INEXACT;
    private static final int OUT_OF_RANGE = Script.OUT_OF_RANGE;
    private static final int NONE = Script.NONE;
    private static final int U = Script.U;
    private static final String[] SIDES = {"1", "-1"};

    // One node at one part, in x or in y.
    private static final String X_PART = "addPath(1, 0); " + Scenes.toParts(0);
    private static final String Y_PART = "addPath(0, 1); " + Scenes.toParts(0);
    // One node at 0, 0 with an out-handle (or an in-handle) of 100 units and one part.
    private static final String HANDLE_PART = "addPath(0, 0); setHandle(0, 0, %s, 100, 1); "
        + Scenes.times(6, "transform(0, 6, 0, 0, 1, 6)");

    private LimitsTest() {
    }

    public static void main(String[] args) {
        positionsByAPart();
        positionsOfManyNodes();
        handlesByAPart();
        handlesByTheRatio();
        halfParts();
        handleThatIsNot0();
        insertedPositions();
        insertedHandles();
        insertedHalfParts();
        ratiosOfNeighbours();
        insertedInEverySegment();
        insertTwoNodesClosed();
        pointsBeyondTheRange();
        boxes();
        greatestArea();
        Due.end();
    }

    private static String flip(String scene, String x, String y) {
        return scene + "; transform(0, " + x + ", 0, 0, " + y + ", 1)";
    }

    // ---- positions and handles

    private static void positionsByAPart() {
        for (String sign : SIDES) {
            int side = Integer.parseInt(sign);
            String x = flip(X_PART, sign, sign);
            String y = flip(Y_PART, sign, sign);
            int out = 200 * side;
            new Script(x).due("coordinate(0, 0, 0)", side).due("shift(0, " + out + ", 0)", OUT_OF_RANGE)
                .due("moveNode(0, 0, " + out + ", 0)", OUT_OF_RANGE).due("shift(0, " + -out + ", " + out + ")", 1)
                .due("coordinate(0, 0, 0)", side - out * U).due("coordinate(0, 0, 1)", out * U)
                .due("moveNode(0, 0, " + -side + ", 0)", OUT_OF_RANGE)
                .due("moveNode(0, 0, " + out + ", 0)", side);
            new Script(y).due("coordinate(0, 0, 1)", side).due("shift(0, 0, " + out + ")", OUT_OF_RANGE)
                .due("moveNode(0, 0, 0, " + out + ")", OUT_OF_RANGE).due("moveNode(0, 0, 0, " + -out + ")", 0)
                .due("coordinate(0, 0, 1)", side - out * U);
            String half = x + "; shift(0, " + 100 * side + ", 0)";
            new Script(half).due("transform(0, 2, 0, 0, 2, 1)", OUT_OF_RANGE)
                .due("transform(0, -2, 0, 0, 0, 1)", OUT_OF_RANGE).due("transform(0, 0, 0, 2, 0, 1)", OUT_OF_RANGE)
                .due("moveNode(0, 0, " + -side + ", 0)", 99 * side * U + side)
                .due("transform(0, 2, 0, 0, 2, 1)", 1).due("coordinate(0, 0, 0)", 198 * side * U + 2 * side);
            new Script("addPath(" + 100 * side + ", 0)").due("transform(0, 2, 0, -2, 0, 1)", 1)
                .dueNode(0, 0, out * U, -out * U, 0, 0, 0, 0, NONE, NONE);
        }
    }

    /** One node that would be too far out is enough, the first one or the last one. */
    private static void positionsOfManyNodes() {
        String scene = Scenes.open(0, 199, 0, 0, 0, 0, -199);
        new Script(scene).due("shift(0, 1, -1)", 3).dueX(0, 200, 1, 1);
        new Script(scene).due("shift(0, 2, 0)", OUT_OF_RANGE).dueX(0, 199, 0, 0);
        new Script(scene).due("shift(0, 0, -2)", OUT_OF_RANGE).dueX(0, 199, 0, 0);
        new Script(scene).due("transform(0, 2, 0, 0, 1, 1)", OUT_OF_RANGE)
            .due("transform(0, 1, 0, 0, 2, 1)", OUT_OF_RANGE).due("transform(0, 1, 0, 0, 2, 5)", INEXACT)
            .dueX(0, 199, 0, 0);
    }

    private static void handlesByAPart() {
        for (String out : new String[] {"true", "false"}) {
            String scene = String.format(HANDLE_PART, out);
            int field = out.equals("true") ? 4 : 2;
            new Script(scene).due("coordinate(0, 0, " + field + ")", 100 * U)
                .due("coordinate(0, 0, " + (field + 1) + ")", 1).due("transform(0, 2, 1, 0, 1, 1)", OUT_OF_RANGE)
                .due("transform(0, -2, -1, 0, 1, 1)", OUT_OF_RANGE).due("transform(0, 1, 0, -2, -1, 1)", OUT_OF_RANGE)
                .due("transform(0, 2, 0, 2, -1, 1)", 1).due("coordinate(0, 0, " + field + ")", 200 * U)
                .due("coordinate(0, 0, " + (field + 1) + ")", 200 * U - 1);
            new Script(scene).due("setSmooth(0, 0, 1, 1)", 0).due("setSmooth(0, 0, 2, 1)", 1)
                .due("coordinate(0, 0, 2)", (out.equals("true") ? -200 : 200) * U);
            String more = scene + "; transform(0, 1, 1, 0, 1, 1)";
            new Script(more).due("setSmooth(0, 0, 2, 1)", out.equals("true") ? OUT_OF_RANGE : INEXACT)
                .due("setSmooth(0, 0, 1, 2)", out.equals("true") ? INEXACT : OUT_OF_RANGE)
                .due("ratio(0, 0, false)", NONE).due("setSmooth(0, 0, 1, 1)", 0);
        }
    }

    private static void handlesByTheRatio() {
        String scene = "addPath(0, 0); setSmooth(0, 0, 2, 1)";
        new Script(scene).due("setHandle(0, 0, true, 100, -100)", 1)
            .dueNode(0, 0, 0, 0, -200 * U, 200 * U, 100 * U, -100 * U, 2, 1)
            .due("setHandle(0, 0, true, 101, 0)", OUT_OF_RANGE).due("setHandle(0, 0, true, 0, -101)", OUT_OF_RANGE)
            .dueNode(0, 0, 0, 0, -200 * U, 200 * U, 100 * U, -100 * U, 2, 1)
            .due("setHandle(0, 0, false, 200, -200)", 1)
            .dueNode(0, 0, 0, 0, 200 * U, -200 * U, -100 * U, 100 * U, 2, 1).due("setSmooth(0, 0, 3, 1)", OUT_OF_RANGE)
            .due("setSmooth(0, 0, 1, 999)", INEXACT).due("setHandle(0, 0, true, 0, 0)", 1)
            .dueNode(0, 0, 0, 0, 0, 0, 0, 0, 2, 1).due("setSmooth(0, 0, 999, 998)", 1)
            .due("setHandle(0, 0, false, 1, 0)", INEXACT).due("setHandle(0, 0, true, 200, 0)", INEXACT)
            .due("setCorner(0, 0)", 1).due("setHandle(0, 0, true, 200, 0)", 0).due("setHandle(0, 0, true, 0, 200)", 0)
            .due("setHandle(0, 0, false, -200, 0)", 0).dueNode(0, 0, 0, 0, -200 * U, 0, 0, 200 * U, NONE, NONE);
        new Script("addPath(0, 0); setSmooth(0, 0, 1, 729)").due("setHandle(0, 0, true, 1, 2)", 1)
            .dueNode(0, 0, 0, 0, -64, -128, U, 2 * U, 1, 729).due("setHandle(0, 0, false, 1, 0)", OUT_OF_RANGE);
        new Script("addPath(0, 0); setSmooth(0, 0, 1, 500)").due("setHandle(0, 0, true, 1, 0)", INEXACT)
            .due("setHandle(0, 0, true, 125, 0)", 1).dueNode(0, 0, 0, 0, -11664, 0, 125 * U, 0, 1, 500);
    }

    private static void halfParts() {
        for (String scene : new String[] {X_PART, Y_PART}) {
            new Script(scene).due("transform(0, 1, 0, 0, 1, 2)", INEXACT).due("transform(0, 3, 0, 0, 3, 2)", INEXACT)
                .due("transform(0, 0, 1, 1, 0, 6)", INEXACT).due("transform(0, 6, 0, 0, 6, 6)", 1)
                .due("transform(0, 2, 0, 0, 2, 1)", 1).due("transform(0, 1, 0, 0, 1, 2)", 1)
                .due("transform(0, 0, 0, 0, 0, 6)", 1).due("find(0, 0)", 0);
            new Script(scene).due("find(0, 0)", NONE).due("find(1, 0)", NONE).due("find(0, 1)", NONE);
        }
        new Script("addPath(1, 1); " + Scenes.toParts(0)).due("transform(0, 1, 1, 1, -1, 2)", 1)
            .dueNode(0, 0, 1, 0, 0, 0, 0, 0, NONE, NONE);
        new Script("addPath(0, 0); setHandle(0, 0, false, 1, 0); " + Scenes.toParts(0))
            .dueNode(0, 0, 0, 0, 1, 0, 0, 0, NONE, NONE).due("transform(0, 1, 0, 0, 1, 2)", INEXACT)
            .due("setSmooth(0, 0, 2, 1)", INEXACT).due("setSmooth(0, 0, 1, 2)", 0)
            .dueNode(0, 0, 0, 0, 1, 0, -2, 0, 1, 2).due("setSmooth(0, 0, 1, 4)", INEXACT)
            .due("setSmooth(0, 0, 3, 2)", 1).dueNode(0, 0, 0, 0, 3, 0, -2, 0, 3, 2);
    }

    /** A handle of which one coordinate is 0 is not 0. */
    private static void handleThatIsNot0() {
        new Script("addPath(0, 0); setHandle(0, 0, true, 0, 5); setHandle(0, 0, false, 7, 7)")
            .due("setSmooth(0, 0, 1, 1)", 0).dueNode(0, 0, 0, 0, 0, -5 * U, 0, 5 * U, 1, 1);
        new Script("addPath(0, 0); setHandle(0, 0, true, 5, 0); setHandle(0, 0, false, 7, 7)")
            .due("setSmooth(0, 0, 1, 1)", 0).dueNode(0, 0, 0, 0, -5 * U, 0, 5 * U, 0, 1, 1);
        new Script("addPath(0, 0); setHandle(0, 0, false, 0, 7)").due("setSmooth(0, 0, 1, 2)", 0)
            .dueNode(0, 0, 0, 0, 0, 7 * U, 0, -14 * U, 1, 2);
    }

    // ---- insert

    private static void insertedPositions() {
        String scene = Scenes.open(0, 200, 0, 200, 10);
        new Script(scene).due("insert(0, 0, 1, 2)", 1).dueNode(0, 1, 200 * U, 5 * U, 0, -5 * U / 2, 0, 5 * U / 2, 1, 1);
        new Script(scene, "setHandle(0, 0, true, 1, 0)").due("insert(0, 0, 1, 2)", OUT_OF_RANGE).due("nodes(0)", 2)
            .due("coordinate(0, 0, 4)", U).due("setHandle(0, 1, false, -1, 0)", 0).due("insert(0, 0, 1, 2)", 1)
            .due("coordinate(0, 1, 0)", 200 * U);
        String fine = Scenes.open(0, 0, 0, 0, 0) + "; setHandle(0, 0, true, 8, 0); " + Scenes.toParts(0)
            + "; shift(0, 200, -200)";
        new Script(fine).due("coordinate(0, 0, 4)", 8).due("insert(0, 0, 1, 2)", OUT_OF_RANGE)
            .due("transform(0, -1, 0, 0, 1, 1)", 2).due("insert(0, 0, 1, 2)", OUT_OF_RANGE).due("shift(0, 200, 0)", 2)
            .due("insert(0, 0, 1, 2)", 1).dueNode(0, 1, -3, -200 * U, -1, 0, 1, 0, 1, 1);
    }

    private static void insertedHandles() {
        String scene = Scenes.open(0, -200, 0, 200, 0)
            + "; setHandle(0, 0, true, -200, 0); setHandle(0, 1, false, -200, 0)";
        new Script(scene).due("insert(0, 0, 5, 6)", OUT_OF_RANGE).due("nodes(0)", 2).due("insert(0, 0, 4, 6)", 1);
        new Script(scene).due("reverse(0)", 2).due("insert(0, 0, 1, 6)", OUT_OF_RANGE).due("nodes(0)", 2)
            .due("insert(0, 0, 2, 6)", 1);
        new Script(scene).due("transform(0, 0, 0, 1, 0, 1)", 2).due("insert(0, 0, 5, 6)", OUT_OF_RANGE);
    }

    /** With a node at 2 parts the new position would be whole, but not its handles. */
    private static void insertedHalfParts() {
        String scene = Scenes.open(0, 0, 0, 1, 0) + "; " + Scenes.toParts(0);
        new Script(scene).due("coordinate(0, 1, 0)", 1).due("insert(0, 0, 1, 2)", INEXACT)
            .due("transform(0, 2, 0, 0, 2, 1)", 2).due("insert(0, 0, 1, 2)", INEXACT).due("point(0, 0, 1, 2, false)", 1)
            .due("transform(0, 2, 0, 0, 2, 1)", 2).due("insert(0, 0, 1, 2)", 1).due("coordinate(0, 1, 0)", 2)
            .due("coordinate(0, 1, 2)", -1).due("coordinate(0, 1, 4)", 1).due("insert(0, 0, 1, 2)", INEXACT)
            .due("insert(0, 1, 1, 2)", INEXACT).due("insert(0, 0, 3, 6)", INEXACT);
        String handle = Scenes.open(0, 0, 0, 0, 0) + "; setHandle(0, %d, %s, 1, 0); " + Scenes.toParts(0);
        new Script(String.format(handle, 0, "true")).due("insert(0, 0, 1, 2)", INEXACT)
            .due("insert(0, 0, 1, 6)", INEXACT).due("transform(0, 8, 0, 0, 8, 1)", 2).due("insert(0, 0, 2, 4)", 1);
        new Script(String.format(handle, 1, "false")).due("insert(0, 0, 1, 2)", INEXACT)
            .due("transform(0, 8, 0, 0, 8, 1)", 2).due("insert(0, 0, 1, 2)", 1);
        new Script(String.format(handle, 0, "false")).due("insert(0, 0, 1, 2)", 1)
            .dueNode(0, 0, 0, 0, 1, 0, 0, 0, NONE, NONE);
        new Script(String.format(handle, 1, "true")).due("insert(0, 0, 4, 5)", 1)
            .dueNode(0, 2, 0, 0, 0, 0, 1, 0, NONE, NONE).dueNode(0, 1, 0, 0, 0, 0, 0, 0, 4, 1);
        new Script(Scenes.open(0, 0, 0, 0, 6)).due("insert(0, 0, 1, 5)", INEXACT).due("insert(0, 0, 1, 6)", 1);
    }

    /** The ratio of A, before and behind, and that of B, for t = a / b; 0 : 0 for a corner. */
    private static void ratiosOfNeighbours() {
        int[][] cases = {
            {1, 2, 3, 4, 3, 2, 3, 8}, {1, 2, 999, 2, 999, 1, 999, 4}, {1, 2, 999, 1, 0, 0, 999, 2},
            {1, 2, 1, 999, 2, 999, 0, 0}, {1, 2, 500, 1, 0, 0, 250, 1}, {1, 2, 499, 1, 998, 1, 499, 2},
            {1, 2, 1, 500, 1, 250, 0, 0}, {1, 2, 1, 499, 2, 499, 1, 998}, {1, 3, 333, 1, 999, 1, 222, 1},
            {1, 3, 334, 1, 0, 0, 668, 3}, {1, 3, 1, 333, 1, 111, 2, 999}, {1, 3, 2, 333, 2, 111, 4, 999},
            {2, 3, 1, 999, 1, 666, 0, 0}, {2, 3, 1, 333, 1, 222, 1, 999}, {2, 3, 666, 1, 999, 1, 222, 1},
            {2, 3, 667, 1, 0, 0, 667, 3}, {5, 6, 833, 1, 0, 0, 833, 6}, {5, 6, 830, 1, 996, 1, 415, 3},
            {5, 6, 832, 1, 0, 0, 416, 3}, {5, 6, 5, 999, 2, 333, 5, 0}, {1, 6, 6, 999, 4, 111, 5, 999},
            {1, 6, 166, 1, 996, 1, 415, 3}, {1, 6, 167, 1, 0, 0, 835, 6}, {2, 4, 3, 5, 6, 5, 3, 10},
            {3, 6, 3, 5, 6, 5, 3, 10}, {4, 6, 3, 5, 9, 10, 1, 5}, {3, 4, 3, 4, 1, 1, 3, 16}, {4, 5, 4, 5, 1, 1, 4, 25}
        };
        for (int[] c : cases) {
            Script script = new Script(Scenes.open(0, 0, 0, 0, 0), "setSmooth(0, 0, " + c[2] + ", " + c[3] + ")",
                "setSmooth(0, 1, " + c[2] + ", " + c[3] + ")");
            script.due("insert(0, 0, " + c[0] + ", " + c[1] + ")", 1);
            dueRatio(script, 0, c[4], c[5]);
            int divisor = c[0] == 3 && c[1] == 6 || c[0] == 2 && c[1] == 4 ? c[0] : c[0] == 4 && c[1] == 6 ? 2 : 1;
            dueRatio(script, 1, c[0] / divisor, (c[1] - c[0]) / divisor);
            dueRatio(script, 2, c[7] == 0 ? 0 : c[6], c[7]);
            script.due("undo()", 4);
            dueRatio(script, 0, lowest(c[2], c[3])[0], lowest(c[2], c[3])[1]);
        }
    }

    private static int[] lowest(int p, int q) {
        int divisor = java.math.BigInteger.valueOf(p).gcd(java.math.BigInteger.valueOf(q)).intValue();
        return new int[] {p / divisor, q / divisor};
    }

    private static void dueRatio(Script script, int node, int p, int q) {
        script.due("ratio(0, " + node + ", false)", p == 0 ? NONE : p);
        script.due("ratio(0, " + node + ", true)", q == 0 ? NONE : q);
    }

    /** The new node comes between both ends, in the last segment of a closed path behind all others. */
    private static void insertedInEverySegment() {
        int[] units = {0, 0, 12, 0, 12, 12, 0, 12, -12, 0};
        for (int segment = 0; segment < 5; segment++) {
            Script open = new Script(Scenes.open(0, units));
            Script closed = new Script(Scenes.closed(0, units));
            long x = 6L * U * (units[2 * segment] / 6 + units[(2 * segment + 2) % 10] / 6) / 2;
            closed.due("insert(0, " + segment + ", 1, 2)", segment + 1)
                .due("coordinate(0, " + (segment + 1) + ", 0)", x).due("nodes(0)", 6).due("isClosed(0)", 1)
                .due("coordinate(0, 0, 0)", 0);
            if (segment < 4) {
                open.due("insert(0, " + segment + ", 1, 2)", segment + 1)
                    .due("coordinate(0, " + (segment + 1) + ", 0)", x).due("nodes(0)", 6);
            } else {
                open.due("insert(0, 4, 1, 2)", Script.BAD_INDEX).due("nodes(0)", 5);
            }
        }
    }

    /** Both segments of a closed path with two nodes share these. */
    private static void insertTwoNodesClosed() {
        String scene = Scenes.closed(0, 0, 0, 8, 0) + "; setHandle(0, 0, true, 0, 4); setHandle(0, 1, false, 0, 4)"
            + "; setSmooth(0, 0, 1, 1); setSmooth(0, 1, 1, 1)";
        new Script(scene).dueNode(0, 0, 0, 0, 0, -4 * U, 0, 4 * U, 1, 1).due("insert(0, 0, 1, 2)", 1)
            .dueNode(0, 0, 0, 0, 0, -4 * U, 0, 2 * U, 2, 1).dueNode(0, 1, 4 * U, 3 * U, -2 * U, 0, 2 * U, 0, 1, 1)
            .dueNode(0, 2, 8 * U, 0, 0, 2 * U, 0, -4 * U, 1, 2);
        new Script(scene).due("insert(0, 1, 1, 2)", 2).dueNode(0, 0, 0, 0, 0, -2 * U, 0, 4 * U, 1, 2)
            .dueNode(0, 1, 8 * U, 0, 0, 4 * U, 0, -2 * U, 2, 1)
            .dueNode(0, 2, 4 * U, -3 * U, 2 * U, 0, -2 * U, 0, 1, 1).due("isClosed(0)", 1);
    }

    // ---- answers beyond 200 units

    private static void pointsBeyondTheRange() {
        String scene = Scenes.open(0, 200, -200, 200, -200)
            + "; setHandle(0, 0, true, 200, -200); setHandle(0, 1, false, 200, -200)";
        new Script(scene).due("point(0, 0, 1, 2, false)", 350 * U).due("point(0, 0, 1, 2, true)", -350 * U)
            .due("point(0, 0, 0, 1, false)", 200 * U).due("point(0, 0, 6, 6, true)", -200 * U).due("box(0, 0)", 200 * U)
            .due("box(0, 1)", 400 * U).due("box(0, 2)", -400 * U).due("box(0, 3)", -200 * U)
            .due("point(0, 0, 2, 5, false)", 344 * U).due("insert(0, 0, 1, 2)", OUT_OF_RANGE);
    }

    /** Any of the four control points can be the outermost one, on each side. */
    private static void boxes() {
        int[] handles = {-20, -10, -5, 0, 5, 10, 20};
        for (int out : handles) {
            for (int in : handles) {
                long least = Math.min(0, Math.min(out, 10 + in)) * U;
                long most = Math.max(10, Math.max(out, 10 + in)) * U;
                String scene = Scenes.open(0, 0, 3, 10, 3) + "; setHandle(0, 0, true, " + out
                    + ", 0); setHandle(0, 1, false, " + in + ", 0)";
                dueBox(scene, least, most, 3 * U, 3 * U);
                dueBox(scene + "; reverse(0)", least, most, 3 * U, 3 * U);
                dueBox(scene + "; join(0, 0)", least, most, 3 * U, 3 * U);
                dueBox(scene + "; transform(0, -1, 0, 0, 1, 1)", -most, -least, 3 * U, 3 * U);
                dueBox(scene + "; transform(0, 0, 1, 1, 0, 1)", 3 * U, 3 * U, least, most);
                dueBox(scene + "; transform(0, 0, 1, -1, 0, 1)", 3 * U, 3 * U, -most, -least);
            }
        }
    }

    private static void dueBox(String scene, long leastX, long mostX, long leastY, long mostY) {
        new Script(scene).due("box(0, 0)", leastX).due("box(0, 1)", mostX).due("box(0, 2)", leastY)
            .due("box(0, 3)", mostY);
    }

    private static void greatestArea() {
        String scene = Scenes.closed(0, -200, -200, 200, -200, 200, 200, -200, 200);
        long square = 60L * U * U * 160000;
        new Script(scene).due("area(0)", square).due("reverse(0)", 4).due("area(0)", -square);
        new Script(scene, "setHandle(0, 0, true, 0, -200); setHandle(0, 1, false, 0, -200)")
            .due("area(0)", square + 60L * U * U * 48000);
        new Script(Scenes.closed(0, 0, 0, 1, 0, 0, 1), Scenes.toParts(0)).due("area(0)", 30)
            .due("coordinate(0, 1, 0)", 1).due("reverse(0)", 3).due("area(0)", -30);
    }
}
