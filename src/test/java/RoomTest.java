/** What is full, what is empty, and one more: paths, nodes, states of the history, bytes of the text, slots. */
public final class RoomTest {
    private static final int BAD_INDEX = Script.BAD_INDEX;
    private static final int NOT_POSSIBLE = Script.NOT_POSSIBLE;
    private static final int FULL = Script.FULL;
    private static final int NONE = Script.NONE;
    private static final int U = Script.U;

    // Each is possible where path 0 is an open row of four nodes, path 1 a closed row of three, and the text is M1 1.
    private static final String[] CHANGES = {"addPath(0, 0)", "extend(0, 0, 0)", "removePath(0)",
        "moveNode(0, 0, 0, 0)", "moveNode(0, 1, 1, 1)", "setHandle(0, 0, true, 0, 0)",
        "setHandle(0, 1, false, 3, 4)", "setSmooth(0, 0, 1, 1)", "setCorner(0, 0)", "insert(0, 0, 1, 2)",
        "removeNode(0, 0)", "split(0, 1)", "split(1, 0)", "join(0, 0)", "reverse(0)",
        "transform(0, 1, 0, 0, 1, 1)", "shift(0, 0, 0)", "read()"};
    private static final String[] NO_CHANGES = {"paths()", "nodes(0)", "isClosed(0)", "coordinate(0, 0, 0)",
        "ratio(0, 0, true)", "point(0, 0, 1, 2, true)", "area(1)", "box(0, 0)", "find(1, 0)", "corners(0)",
        "append(48)", "clearText()", "faultPosition()", "print(0)", "printed(0)", "save(0)", "save(1)", "checksum()",
        "addPath(201, 0)", "extend(0, 0, 201)", "moveNode(0, 0, -200, 201)", "restore(0)", "restore(2)", "split(0, 0)",
        "shift(0, 199, 0)", "removePath(2)"};
    private static final String SCENE = Scenes.row(0, 4, 0) + "; " + Scenes.closedRow(1, 3, 1)
        + "; append(77); append(49); append(32); append(49)";

    private RoomTest() {
    }

    public static void main(String[] args) {
        newObject();
        sixPaths();
        numbersBehindARemovedPath();
        twelveNodes();
        twelveNodesByJoining();
        oneNodeAndNone();
        tenStates();
        eleventhStateByEachCall();
        eachCallIsAChange();
        whatIsNoChange();
        whatCanBeMadeAgain();
        restoredHistory();
        slots();
        hundredAndTwentyBytes();
        longestPrint();
        checksums();
        Due.end();
    }

    private static void newObject() {
        new Script().due("paths()", 0).due("undo()", NOT_POSSIBLE).due("redo()", NOT_POSSIBLE).due("clearText()", 0)
            .due("faultPosition()", 0).due("read()", NOT_POSSIBLE).due("printed(0)", BAD_INDEX)
            .due("restore(0)", NOT_POSSIBLE).due("restore(1)", NOT_POSSIBLE).due("checksum()", 31 * 59)
            .due("save(0)", 0).due("restore(0)", 0).due("restore(1)", NOT_POSSIBLE);
    }

    // ---- 6 paths

    private static void sixPaths() {
        Script script = new Script().type("M7 7");
        for (int k = 0; k < 6; k++) {
            script.due("paths()", k).due("addPath(" + k + ", 0)", k);
        }
        script.due("addPath(0, 0)", FULL).due("read()", FULL).due("paths()", 6).due("nodes(5)", 1)
            .due("nodes(6)", BAD_INDEX).due("removePath(2)", 5).due("read()", 5).due("coordinate(5, 0, 0)", 7 * U)
            .due("read()", FULL).due("removePath(5)", 5).due("addPath(8, 0)", 5).due("addPath(9, 0)", FULL);
        String five = Scenes.row(0, 3, 0) + "; addPath(0, 0); addPath(1, 0); addPath(2, 0); addPath(3, 0)";
        new Script(five).due("split(0, 1)", 6).due("nodes(5)", 2);
        new Script(five, "addPath(0, 0)").due("split(0, 1)", FULL).due("nodes(0)", 3);
        new Script(five, "addPath(0, 0); join(0, 0)").due("split(0, 1)", 6).due("nodes(0)", 4).due("paths()", 6);
        new Script(five, "addPath(0, 0)").due("join(0, 5)", 4).due("split(0, 1)", 6).due("join(5, 4)", 4)
            .due("paths()", 5);
    }

    private static void numbersBehindARemovedPath() {
        for (int removed = 0; removed < 6; removed++) {
            Script script = new Script(Scenes.dots(6)).due("removePath(" + removed + ")", 5);
            for (int k = 0; k < 5; k++) {
                script.due("coordinate(" + k + ", 0, 0)", (k < removed ? k : k + 1) * U);
            }
            script.due("coordinate(5, 0, 0)", BAD_INDEX);
            script = new Script(Scenes.dots(6)).due("removeNode(" + removed + ", 0)", 0).due("paths()", 5);
            for (int k = 0; k < 5; k++) {
                script.due("coordinate(" + k + ", 0, 0)", (k < removed ? k : k + 1) * U);
            }
        }
        for (int one = 0; one < 6; one++) {
            for (int other = 0; other < 6; other++) {
                if (one != other) {
                    joinedNumber(one, other);
                }
            }
        }
    }

    /** The joined path's number is 1 less if the other one was lower. */
    private static void joinedNumber(int one, int other) {
        Script script = new Script(Scenes.dots(6)).due("join(" + one + ", " + other + ")", 2).due("paths()", 5);
        int number = other < one ? one - 1 : one;
        for (int k = 0; k < 5; k++) {
            script.due("nodes(" + k + ")", k == number ? 2 : 1);
            script.due("coordinate(" + k + ", 0, 0)", (k < other ? k : k + 1) * U);
        }
        script.due("coordinate(" + number + ", 1, 0)", other * U);
    }

    // ---- 12 nodes

    private static void twelveNodes() {
        Script script = new Script("addPath(0, 0)");
        for (int k = 2; k <= 12; k++) {
            script.due("extend(0, " + (k - 1) + ", 0)", k);
        }
        script.due("extend(0, 12, 0)", FULL).due("insert(0, 10, 1, 2)", FULL).due("removeNode(0, 5)", 11)
            .due("insert(0, 10, 1, 2)", BAD_INDEX).due("insert(0, 9, 1, 2)", 10).due("insert(0, 9, 1, 2)", FULL)
            .due("extend(0, 12, 0)", FULL).due("removeNode(0, 11)", 11).due("extend(0, 12, 0)", 12)
            .due("nodes(0)", 12).due("coordinate(0, 11, 0)", 12 * U).due("coordinate(0, 12, 0)", BAD_INDEX);
        new Script(Scenes.row(0, 12, 0)).due("join(0, 0)", 12).due("insert(0, 11, 1, 2)", FULL)
            .due("extend(0, 0, 0)", NOT_POSSIBLE).due("split(0, 3)", FULL).due("removeNode(0, 0)", 11)
            .due("insert(0, 10, 1, 2)", 11).due("split(0, 11)", FULL).due("removeNode(0, 11)", 11)
            .due("split(0, 3)", 1).dueX(0, 4, 5, 6, 7, 8, 9, 10, 11, 1, 2, 3, 4).due("isClosed(0)", 0)
            .due("join(0, 0)", 11).due("isClosed(0)", 1).dueX(0, 4, 5, 6, 7, 8, 9, 10, 11, 1, 2, 3);
        Script text = new Script().type("M0 0" + "L0 0".repeat(11)).due("read()", 0).due("nodes(0)", 12)
            .due("extend(0, 0, 0)", FULL);
        text.type("Z").due("read()", 1).due("nodes(1)", 12).due("isClosed(1)", 1).due("split(1, 0)", FULL);
    }

    private static void twelveNodesByJoining() {
        for (int first = 1; first <= 12; first++) {
            String apart = Scenes.row(0, first, 0) + "; " + Scenes.row(1, 12 - first + 1, 1);
            new Script(apart).due("join(0, 1)", FULL).due("join(1, 0)", FULL).due("paths()", 2)
                .due("removeNode(1, 0)", 12 - first).due("join(0, 1)", first == 12 ? BAD_INDEX : 12);
            String meeting = Scenes.row(0, first, 0) + "; " + Scenes.row(1, 12 - first + 1, 0)
                + "; shift(1, " + (first - 1) + ", 0)";
            new Script(meeting).due("join(0, 1)", 12).due("paths()", 1)
                .dueX(0, 0, 1, 2, 3, 4, 5, 6, 7, 8, 9, 10, 11);
        }
        String one = Scenes.row(0, 12, 0) + "; moveNode(0, 11, -11, 0)";
        new Script(one).due("join(0, 0)", 11).due("split(0, 0)", 1).due("nodes(0)", 12);
        new Script(Scenes.row(0, 7, 0), Scenes.row(1, 7, 0), "shift(1, 6, 0)").due("join(0, 1)", FULL);
    }

    private static void oneNodeAndNone() {
        new Script("addPath(3, 4)").due("split(0, 0)", NOT_POSSIBLE).due("join(0, 0)", NOT_POSSIBLE)
            .due("insert(0, 0, 1, 2)", BAD_INDEX).due("point(0, 0, 0, 1, false)", BAD_INDEX).due("reverse(0)", 1)
            .due("corners(0)", 0).due("box(0, 0)", 3 * U).due("box(0, 3)", 4 * U).due("print(0)", 4)
            .due("removeNode(0, 0)", 0).due("paths()", 0).due("nodes(0)", BAD_INDEX).due("undo()", 2)
            .due("nodes(0)", 1);
        new Script(Scenes.closedRow(0, 2, 0)).due("removeNode(0, 0)", 1).due("isClosed(0)", 0).due("nodes(0)", 1)
            .due("extend(0, 5, 0)", 2).due("isClosed(0)", 0);
        new Script(Scenes.closedRow(0, 2, 0)).due("removeNode(0, 1)", 1).due("isClosed(0)", 0)
            .due("area(0)", NOT_POSSIBLE).due("removeNode(0, 0)", 0).due("paths()", 0);
        new Script(Scenes.closedRow(0, 3, 0)).due("removeNode(0, 2)", 2).due("isClosed(0)", 1).due("area(0)", 0);
        new Script(Scenes.open(0, 4, 4, 4, 4)).due("join(0, 0)", NOT_POSSIBLE).due("isClosed(0)", 0);
        new Script(Scenes.open(0, 4, 4, 5, 5, 4, 4)).due("join(0, 0)", 2).due("isClosed(0)", 1).dueX(0, 4, 5);
        new Script(Scenes.open(0, 4, 4, 4, 5)).due("join(0, 0)", 2).due("isClosed(0)", 1);
        new Script(Scenes.open(0, 4, 4), Scenes.open(1, 4, 4)).due("join(0, 1)", 1).due("paths()", 1)
            .due("isClosed(0)", 0).due("nodes(0)", 1).due("join(0, 0)", NOT_POSSIBLE);
    }

    // ---- 10 states

    private static void tenStates() {
        for (int changes = 0; changes <= 25; changes++) {
            int kept = Math.min(changes, 10);
            Script script = new Script();
            for (int k = 0; k < changes; k++) {
                script.make(k == 0 ? "addPath(0, 0)" : "shift(0, 1, 0)");
            }
            for (int k = kept - 1; k >= 0; k--) {
                int x = changes - kept + k - 1;
                script.due("undo()", k).due("find(" + x + ", 0)", x >= 0 ? 0 : NONE);
            }
            script.due("undo()", NOT_POSSIBLE).due("paths()", changes > 10 ? 1 : 0);
            for (int k = kept - 1; k >= 0; k--) {
                script.due("redo()", k).due("find(" + (changes - k - 1) + ", 0)", 0);
            }
            script.due("redo()", NOT_POSSIBLE);
            for (int k = kept - 1; k >= 0; k--) {
                script.due("undo()", k);
            }
            script.due("undo()", NOT_POSSIBLE).due("addPath(9, 9)", changes > 10 ? 1 : 0).due("redo()", NOT_POSSIBLE)
                .due("undo()", 0).due("undo()", NOT_POSSIBLE).due("redo()", 0).due("redo()", NOT_POSSIBLE);
        }
    }

    private static void eleventhStateByEachCall() {
        for (String change : CHANGES) {
            Script script = new Script(SCENE, Scenes.times(12, "moveNode(0, 3, 1, 1)")).make(change);
            for (int k = 9; k >= 0; k--) {
                script.due("undo()", k);
            }
            script.due("undo()", NOT_POSSIBLE).due("coordinate(0, 3, 0)", (3 + 3) * U);
            for (int k = 9; k >= 0; k--) {
                script.due("redo()", k);
            }
            script.due("redo()", NOT_POSSIBLE);
        }
    }

    private static void eachCallIsAChange() {
        for (String change : CHANGES) {
            long before = new Script(SCENE).answer("checksum()");
            long after = new Script(SCENE).make(change).answer("checksum()");
            new Script(SCENE, "undo(); undo(); redo(); redo()").make(change).due("redo()", NOT_POSSIBLE)
                .due("checksum()", after).due("undo()", 8).due("checksum()", before).due("redo()", 0)
                .due("checksum()", after).due("redo()", NOT_POSSIBLE).due("undo()", 8).due("undo()", 7)
                .due("redo()", 1).due("checksum()", before).due("redo()", 0).due("checksum()", after);
            new Script(SCENE, "shift(0, 1, 1); undo()").make(change).due("redo()", NOT_POSSIBLE).due("undo()", 8);
        }
    }

    private static void whatIsNoChange() {
        long before = new Script(SCENE).answer("checksum()");
        long after = new Script(SCENE).make("shift(0, 1, 1)").answer("checksum()");
        for (String call : NO_CHANGES) {
            new Script(SCENE, "shift(0, 1, 1); undo()").make(call).due("checksum()", before).due("redo()", 0)
                .due("checksum()", after).due("undo()", 8).make(call).due("undo()", 7).make(call).due("redo()", 1)
                .due("redo()", 0).due("checksum()", after);
        }
    }

    private static void whatCanBeMadeAgain() {
        new Script("addPath(0, 0); addPath(1, 1); addPath(2, 2)").due("redo()", NOT_POSSIBLE).due("undo()", 2)
            .due("undo()", 1).due("redo()", 1).due("undo()", 1).due("undo()", 0).due("undo()", NOT_POSSIBLE)
            .due("redo()", 2).due("redo()", 1).due("paths()", 2).due("addPath(3, 3)", 2).due("redo()", NOT_POSSIBLE)
            .due("undo()", 2).due("redo()", 0).due("coordinate(2, 0, 0)", 3 * U).due("undo()", 2)
            .due("addPath(201, 0)", Script.BAD_VALUE).due("undo()", 1).due("redo()", 1).due("redo()", 0);
    }

    private static void restoredHistory() {
        String scene = "addPath(0, 0); save(0); addPath(1, 1); save(1); addPath(2, 2); addPath(3, 3); undo()";
        new Script(scene).due("restore(1)", 2).due("undo()", NOT_POSSIBLE).due("redo()", NOT_POSSIBLE)
            .due("paths()", 2).due("addPath(5, 5)", 2).due("undo()", 0).due("undo()", NOT_POSSIBLE).due("paths()", 2)
            .due("redo()", 0).due("restore(1)", 2).due("redo()", NOT_POSSIBLE).due("restore(0)", 1)
            .due("restore(1)", 2);
        new Script(scene).due("restore(2)", BAD_INDEX).due("redo()", 0).due("undo()", 3).due("undo()", 2);
        Script full = new Script("addPath(0, 0); save(0)", Scenes.times(30, "shift(0, 1, 0)")).due("restore(0)", 1);
        full.make(Scenes.times(11, "shift(0, 0, 1)"));
        for (int k = 9; k >= 0; k--) {
            full.due("undo()", k).due("coordinate(0, 0, 1)", (k + 1) * U).due("coordinate(0, 0, 0)", 0);
        }
        full.due("undo()", NOT_POSSIBLE);
    }

    private static void slots() {
        new Script().due("save(1)", 0).due("addPath(0, 0)", 0).due("restore(0)", NOT_POSSIBLE).due("paths()", 1)
            .due("restore(1)", 0).due("paths()", 0).due("restore(1)", 0);
        for (int slot = 0; slot < 2; slot++) {
            String other = "restore(" + (1 - slot) + ")";
            String restore = "restore(" + slot + ")";
            new Script(Scenes.dots(6), Scenes.times(11, "extend(5, 7, 8)")).due("save(" + slot + ")", 6)
                .due(other, NOT_POSSIBLE).make(Scenes.times(6, "removePath(0)")).due("paths()", 0).due(restore, 6)
                .due("nodes(5)", 12).due("nodes(4)", 1).due("moveNode(5, 0, 1, 1)", 6 * U).due("reverse(5)", 12)
                .due(restore, 6).due("coordinate(5, 0, 0)", 5 * U).due(other, NOT_POSSIBLE)
                .due("removePath(0)", 5).due("save(" + slot + ")", 5).due("removePath(0)", 4).due(restore, 5)
                .due("coordinate(0, 0, 0)", U).due("find(0, 0)", NONE);
        }
    }

    // ---- 120 bytes, and a print that is longer

    private static void hundredAndTwentyBytes() {
        Script script = new Script();
        for (int k = 1; k <= 120; k++) {
            script.due("append(" + k + ")", k);
        }
        script.due("append(0)", FULL).due("append(127)", FULL).due("faultPosition()", 0).due("clearText()", 120)
            .due("append(0)", 1).due("clearText()", 1).due("clearText()", 0).due("faultPosition()", 0);
        String path = "M-100 -100" + "C-111 -111 -111 -111 -111 -111".repeat(3) + "L-111 -111";
        Due.is("bytes of " + path, path.length(), 110);
        new Script().type(path + "L-111 -19Z").due("append(48)", FULL).due("faultPosition()", NONE).due("read()", 0)
            .due("isClosed(0)", 1).due("nodes(0)", 6).due("coordinate(0, 5, 1)", -19 * U).due("clearText()", 120);
        new Script().type(path + "L-111 -190").due("append(90)", FULL).due("faultPosition()", NONE).due("read()", 0)
            .due("isClosed(0)", 0).due("coordinate(0, 5, 1)", -190 * U).due("read()", 1).due("clearText()", 120);
        new Script().type(path + "L-111 -201").due("faultPosition()", 116).due("read()", NOT_POSSIBLE);
        new Script().type(path + "L-111 -19 ").due("faultPosition()", 119).due("read()", NOT_POSSIBLE);
        new Script().type(path + "L-111 -19L").due("faultPosition()", 120).due("append(48)", FULL)
            .due("faultPosition()", 120).due("read()", NOT_POSSIBLE);
        new Script().type(path + "L-111 -19C").due("faultPosition()", 120).due("read()", NOT_POSSIBLE);
        new Script().type(path + "L1 1L-1 1-").due("faultPosition()", 119);
        new Script().type(path + "L1 1L-11 -").due("faultPosition()", 120);
        new Script().type(path + "L1 1L-111 ").due("faultPosition()", 120);
        new Script().type(path + "L1 1L-11 1").due("faultPosition()", NONE).due("append(48)", FULL).due("read()", 0)
            .due("nodes(0)", 7);
    }

    private static void longestPrint() {
        StringBuilder calls = new StringBuilder("addPath(-200, -200); setHandle(0, 0, true, -200, -200)");
        calls.append("; ").append(Scenes.times(10, "extend(0, -200, -200)")).append("; extend(0, -199, -199)");
        StringBuilder text = new StringBuilder("M-200 -200");
        for (int k = 1; k < 12; k++) {
            calls.append("; setHandle(0, " + k + ", false, -200, -200)");
            if (k < 11) {
                calls.append("; setHandle(0, " + k + ", true, -200, -200)");
            }
            text.append(k < 11 ? "C-400 -400 -400 -400 -200 -200" : "C-400 -400 -399 -399 -199 -199");
        }
        calls.append("; setHandle(0, 0, false, 0, 0); join(0, 0)");
        new Script(calls.toString()).due("print(0)", 341).duePrinted(text + "Z").due("printed(MAX)", BAD_INDEX);
    }

    // ---- checksum

    private static void checksums() {
        String smooth = "; setHandle(0, 1, true, 6, -2); setSmooth(0, 1, 3, 2); setHandle(0, 0, false, 7, 8)";
        String[] scenes = {"", "addPath(-3, 4)", "addPath(1, 1); removePath(0)", Scenes.dots(6), Scenes.row(0, 12, -9),
            Scenes.closedRow(0, 12, 5), SCENE, Scenes.closed(0, 0, 0, 6, 0, 6, 6), Scenes.row(0, 3, 0) + smooth,
            Scenes.closed(0, 9, 9, 0, 0, 7, -8) + smooth, Scenes.closed(0, 9, 9, 0, 0) + smooth + "; addPath(1, 1)",
            Scenes.row(0, 12, 0) + "; " + Scenes.closedRow(1, 12, 1) + "; " + Scenes.row(2, 8, 3) + smooth};
        for (String scene : scenes) {
            Script script = new Script(scene);
            script.due("checksum()", checksumOfAnswers(script));
        }
    }

    private static long checksumOfAnswers(Script script) {
        long paths = script.answer("paths()");
        long h = 31 * 59 + paths;
        for (int k = 0; k < paths; k++) {
            long nodes = script.answer("nodes(" + k + ")");
            long closed = script.answer("isClosed(" + k + ")");
            h = 31 * (31 * h + nodes) + closed;
            for (int j = 0; j < nodes; j++) {
                for (int what = 0; what < 6; what++) {
                    h = 31 * h + script.answer("coordinate(" + k + ", " + j + ", " + what + ")");
                }
                h = 31 * h + script.answer("ratio(" + k + ", " + j + ", false)");
                h = 31 * h + script.answer("ratio(" + k + ", " + j + ", true)");
            }
            if (closed == 1) {
                h = 31 * h + script.answer("area(" + k + ")");
            }
        }
        return h;
    }
}
