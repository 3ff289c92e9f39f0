/**
 * For each argument of each call: the least and the greatest value that the document lets through and what they answer,
 * one below, one above, and the ends of int, which are refused. In a call, # stands for the argument.
 */
public final class BoundsTest {
    private static final int BAD_INDEX = Script.BAD_INDEX;
    private static final int BAD_VALUE = Script.BAD_VALUE;
    private static final int NONE = Script.NONE;
    private static final int U = Script.U;

    private static final String[] CALLS_WITH_A_PATH = {"extend(#, 0, 0)", "removePath(#)", "moveNode(#, 0, 0, 0)",
        "setHandle(#, 0, true, 0, 0)", "setHandle(#, 0, false, 0, 0)", "setSmooth(#, 0, 1, 1)", "setCorner(#, 0)",
        "insert(#, 0, 1, 2)", "removeNode(#, 0)", "split(#, 1)", "join(#, 0)", "join(0, #)", "reverse(#)",
        "transform(#, 1, 0, 0, 1, 1)", "shift(#, 0, 0)", "nodes(#)", "isClosed(#)", "coordinate(#, 0, 0)",
        "ratio(#, 0, false)", "ratio(#, 0, true)", "point(#, 0, 0, 1, false)", "point(#, 0, 1, 1, true)", "area(#)",
        "box(#, 0)", "corners(#)", "print(#)"};
    private static final String[] CALLS_WITH_A_NODE = {"moveNode(0, #, 0, 0)", "setHandle(0, #, true, 0, 0)",
        "setHandle(0, #, false, 0, 0)", "setSmooth(0, #, 1, 1)", "setCorner(0, #)", "removeNode(0, #)", "split(0, #)",
        "coordinate(0, #, 0)", "coordinate(0, #, 5)", "ratio(0, #, false)", "ratio(0, #, true)"};
    private static final String[] CALLS_WITH_A_SEGMENT = {"insert(0, #, 1, 2)", "insert(0, #, 5, 6)",
        "point(0, #, 0, 1, false)", "point(0, #, 1, 2, true)"};

    private BoundsTest() {
    }

    public static void main(String[] args) {
        lengths();
        ratios();
        fractionsOfInsert();
        fractionsOfPoint();
        factors();
        smallNumbers();
        slots();
        for (int paths = 0; paths <= 6; paths++) {
            pathsThatAreNotThere(paths);
        }
        for (int nodes = 1; nodes <= 12; nodes++) {
            nodesThatAreNotThere(Scenes.row(0, nodes, 0), nodes);
            segmentsThatAreNotThere(Scenes.row(0, nodes, 0), nodes - 1, nodes == 12);
        }
        for (int nodes = 2; nodes <= 12; nodes++) {
            nodesThatAreNotThere(Scenes.closedRow(0, nodes, 0), nodes);
            segmentsThatAreNotThere(Scenes.closedRow(0, nodes, 0), nodes, nodes == 12);
        }
        Due.end();
    }

    private static String with(String call, Object value) {
        return call.replace("#", String.valueOf(value));
    }

    private static void refused(String scene, String call, int error, int below, int above) {
        for (Object value : new Object[] {below, above, "MIN", "MAX"}) {
            new Script(scene).due(with(call, value), error).due("undo()", new Script(scene).answer("undo()"));
        }
    }

    private static void bounds(String scene, String call, int least, int most, long atLeast, long atMost) {
        new Script(scene).due(with(call, least), atLeast);
        new Script(scene).due(with(call, most), atMost);
        refused(scene, call, BAD_VALUE, least - 1, most + 1);
    }

    // ---- lengths in units: -200 to 200

    private static void lengths() {
        String one = "addPath(0, 0)";
        String far = "addPath(200, -200)";
        bounds("", "addPath(#, 0)", -200, 200, 0, 0);
        bounds("", "addPath(0, #)", -200, 200, 0, 0);
        bounds(one, "extend(0, #, 0)", -200, 200, 2, 2);
        bounds(one, "extend(0, 0, #)", -200, 200, 2, 2);
        bounds(one, "moveNode(0, 0, #, 0)", -200, 200, -200 * U, 200 * U);
        bounds(one, "moveNode(0, 0, 0, #)", -200, 200, 0, 0);
        bounds(far, "moveNode(0, 0, #, 0)", -200, 0, 0, 200 * U, 200);
        bounds(far, "moveNode(0, 0, 0, #)", 0, 200, 200 * U, 200 * U, -200);
        for (String out : new String[] {"true", "false"}) {
            bounds(one, "setHandle(0, 0, " + out + ", #, 0)", -200, 200, 0, 0);
            bounds(one, "setHandle(0, 0, " + out + ", 0, #)", -200, 200, 0, 0);
            bounds(one + "; setSmooth(0, 0, 1, 1)", "setHandle(0, 0, " + out + ", #, 0)", -200, 200, 1, 1);
            bounds(one + "; setSmooth(0, 0, 1, 1)", "setHandle(0, 0, " + out + ", 0, #)", -200, 200, 1, 1);
        }
        bounds(one, "shift(0, #, 0)", -200, 200, 1, 1);
        bounds(one, "shift(0, 0, #)", -200, 200, 1, 1);
        bounds(far, "find(#, -200)", -200, 200, NONE, 0);
        bounds(far, "find(200, #)", -200, 200, 0, NONE);
        new Script("addPath(-200, 200); extend(0, 200, -200); setHandle(0, 0, true, -200, 200)")
            .make("setHandle(0, 1, false, 200, -200)")
            .dueNode(0, 0, -200 * U, 200 * U, 0, 0, -200 * U, 200 * U, NONE, NONE)
            .dueNode(0, 1, 200 * U, -200 * U, 200 * U, -200 * U, 0, 0, NONE, NONE);
    }

    /** Within least and most the call is possible, beyond them, but for values from the limit on, OUT_OF_RANGE. */
    private static void bounds(String scene, String call, int least, int most, long atLeast, long atMost, int limit) {
        new Script(scene).due(with(call, least), atLeast);
        new Script(scene).due(with(call, most), atMost);
        new Script(scene).due(with(call, limit), Script.OUT_OF_RANGE);
        new Script(scene).due(with(call, limit < 0 ? -1 : 1), Script.OUT_OF_RANGE);
        refused(scene, call, BAD_VALUE, -201, 201);
    }

    private static void ratios() {
        bounds("addPath(0, 0)", "setSmooth(0, 0, #, 1)", 1, 999, 0, 0);
        bounds("addPath(0, 0)", "setSmooth(0, 0, 1, #)", 1, 999, 0, 0);
        bounds("addPath(0, 0)", "setSmooth(0, 0, #, 999)", 1, 999, 0, 0);
        bounds("addPath(0, 0); setSmooth(0, 0, 1, 1)", "setSmooth(0, 0, 999, #)", 1, 999, 1, 1);
        new Script("addPath(0, 0)").due("setCorner(0, 0)", 0).due("setSmooth(0, 0, 1, 1)", 0)
            .due("setSmooth(0, 0, 1, 2)", 1).due("setCorner(0, 0)", 1).due("setCorner(0, 0)", 0);
        new Script("addPath(0, 0); setSmooth(0, 0, 999, 1)").dueNode(0, 0, 0, 0, 0, 0, 0, 0, 999, 1);
        new Script("addPath(0, 0); setSmooth(0, 0, 1, 999)").dueNode(0, 0, 0, 0, 0, 0, 0, 0, 1, 999);
        new Script("addPath(0, 0); setSmooth(0, 0, 999, 999)").dueNode(0, 0, 0, 0, 0, 0, 0, 0, 1, 1);
        new Script("addPath(0, 0); setSmooth(0, 0, 998, 999)").dueNode(0, 0, 0, 0, 0, 0, 0, 0, 998, 999);
    }

    // ---- fractions

    private static void fractionsOfInsert() {
        String scene = Scenes.open(0, 0, 0, 60, 0);
        for (int b = 2; b <= 6; b++) {
            String call = "insert(0, 0, #, " + b + ")";
            int answer = b == 5 ? Script.INEXACT : 1;
            bounds(scene, call, 1, b - 1, answer, answer);
        }
        refused(scene, "insert(0, 0, 1, #)", BAD_VALUE, 1, 7);
        for (int b = -7; b <= 1; b++) {
            refused(scene, "insert(0, 0, #, " + b + ")", BAD_VALUE, 0, b - 1);
            refused(scene, "insert(0, 0, #, " + b + ")", BAD_VALUE, 1, b);
        }
        String fine = Scenes.open(0, 0, 0, 125, -125);
        for (int a = 1; a < 5; a++) {
            new Script(fine).due("insert(0, 0, " + a + ", 5)", 1).due("ratio(0, 1, false)", a)
                .due("ratio(0, 1, true)", 5 - a);
        }
    }

    private static void fractionsOfPoint() {
        String scene = Scenes.open(0, 0, 0, 125, -125);
        for (int b = 1; b <= 6; b++) {
            bounds(scene, "point(0, 0, #, " + b + ", false)", 0, b, 0, 125 * U);
            bounds(scene, "point(0, 0, #, " + b + ", true)", 0, b, 0, -125 * U);
        }
        bounds(scene, "point(0, 0, 0, #, false)", 1, 6, 0, 0);
        bounds(scene, "point(0, 0, 1, #, true)", 1, 6, -125 * U, -125L * 16 * U / 216);
        for (int b = -7; b <= 0; b++) {
            refused(scene, "point(0, 0, #, " + b + ", false)", BAD_VALUE, 0, b);
        }
    }

    private static void factors() {
        String scene = "addPath(2, 4)";
        for (String call : new String[] {"transform(0, #, 0, 0, 1, 1)", "transform(0, 1, #, 0, 1, 1)",
            "transform(0, 1, 0, #, 1, 1)", "transform(0, 1, 0, 0, #, 1)"}) {
            bounds(scene, call, -9, 9, 1, 1);
        }
        bounds(scene, "transform(0, 1, 0, 0, 1, #)", 1, 6, 1, 1);
        new Script(scene).due("transform(0, 9, -9, -9, 9, 6)", 1).dueNode(0, 0, -3 * U, 3 * U, 0, 0, 0, 0, NONE, NONE);
        new Script(scene).due("transform(0, -9, 9, 9, 9, 1)", 1).dueNode(0, 0, 18 * U, 54 * U, 0, 0, 0, 0, NONE, NONE);
    }

    private static void smallNumbers() {
        String scene = "addPath(2, 4); setHandle(0, 0, false, 6, 7); setHandle(0, 0, true, 8, 9); extend(0, 5, -6)";
        bounds(scene, "coordinate(0, 0, #)", 0, 5, 2 * U, 9 * U);
        bounds(scene, "box(0, #)", 0, 3, 2 * U, 13 * U);
        bounds("", "append(#)", 0, 127, 1, 1);
    }

    private static void slots() {
        String scene = "addPath(0, 0); save(0); addPath(1, 1); save(1)";
        new Script(scene).due("save(0)", 2).due("save(1)", 2);
        new Script(scene).due("restore(0)", 1).due("restore(1)", 2);
        for (String call : new String[] {"save(#)", "restore(#)"}) {
            refused(scene, call, BAD_INDEX, -1, 2);
        }
        String printed = scene + "; print(1)";
        new Script(printed).due("printed(0)", 'M').due("printed(3)", '1');
        refused(printed, "printed(#)", BAD_INDEX, -1, 4);
        refused(scene, "printed(#)", BAD_INDEX, -1, 0);
    }

    // ---- what is not there

    private static void pathsThatAreNotThere(int paths) {
        StringBuilder scene = new StringBuilder();
        for (int k = 0; k < paths; k++) {
            scene.append(k > 0 ? "; " : "").append(Scenes.open(k, k, 0, 6, 0, 6, 6));
        }
        for (String call : CALLS_WITH_A_PATH) {
            refused(scene.toString(), call, BAD_INDEX, -1, paths);
            for (int k = 0; k < paths; k++) {
                long answer = new Script(scene.toString()).answer(with(call, k));
                Due.is(with(call, k) + " with " + paths + " paths", answer == BAD_INDEX ? 1 : 0, 0);
            }
        }
    }

    private static void nodesThatAreNotThere(String scene, int nodes) {
        for (String call : CALLS_WITH_A_NODE) {
            refused(scene, call, BAD_INDEX, -1, nodes);
            for (int k = 0; k < nodes; k++) {
                long answer = new Script(scene).answer(with(call, k));
                Due.is(with(call, k) + " with " + nodes + " nodes", answer == BAD_INDEX ? 1 : 0, 0);
            }
        }
    }

    private static void segmentsThatAreNotThere(String scene, int segments, boolean full) {
        for (String call : CALLS_WITH_A_SEGMENT) {
            refused(scene, call, BAD_INDEX, -1, segments);
            for (int k = 0; k < segments; k++) {
                long answer = new Script(scene).answer(with(call, k));
                if (call.startsWith("insert")) {
                    Due.is(scene + "; " + with(call, k), answer, full ? Script.FULL : k + 1);
                } else {
                    Due.is(scene + "; " + with(call, k), answer < Script.INEXACT ? 0 : 1, 1);
                }
            }
        }
    }
}
