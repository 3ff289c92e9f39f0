/** Reading and printing: what stands in a print and what it leaves out, and each reason why a path has none. */
public final class PrintTest {
    private static final int BAD_INDEX = Script.BAD_INDEX;
    private static final int NOT_POSSIBLE = Script.NOT_POSSIBLE;
    private static final int NONE = Script.NONE;
    private static final int U = Script.U;

    private PrintTest() {
    }

    public static void main(String[] args) {
        numbers();
        numbersBeyondTheRange();
        linesAndCurves();
        whatIsLeftOut();
        lastSegment();
        nodesThatAreBroken();
        handlesThatAreBroken();
        wholeAgain();
        inPlaceOfWhatWasPrinted();
        readNodes();
        readAndPrinted();
        newPathsInOldPlaces();
        Due.end();
    }

    private static void due(String scene, String text) {
        new Script(scene).due("print(0)", text.length()).duePrinted(text).due("printed(-1)", BAD_INDEX);
    }

    private static void dueNone(String scene) {
        new Script(scene).due("print(0)", NOT_POSSIBLE).due("printed(0)", BAD_INDEX);
    }

    // ---- what is printed

    private static void numbers() {
        for (int x : new int[] {0, 1, 9, 10, 11, 19, 20, 90, 99, 100, 101, 109, 110, 190, 199, 200}) {
            due("addPath(" + x + ", " + -x + ")", "M" + x + " " + -x);
            due("addPath(" + -x + ", " + x + ")", "M" + -x + " " + x);
            due(Scenes.open(0, 0, 0, x, x, -x, 7), "M0 0L" + x + " " + x + "L" + -x + " 7");
        }
    }

    /** The control points of a curve may be up to 400 units from 0. */
    private static void numbersBeyondTheRange() {
        due(Scenes.open(0, 200, -200, 0, 0) + "; setHandle(0, 0, true, 200, -200)", "M200 -200C400 -400 0 0 0 0");
        due(Scenes.open(0, 0, 0, -200, 200) + "; setHandle(0, 1, false, -200, 200)", "M0 0C0 0 -400 400 -200 200");
        due(Scenes.open(0, 200, 200, 100, 0) + "; setHandle(0, 0, true, 1, 100); setHandle(0, 1, false, 199, -1)",
            "M200 200C201 300 299 -1 100 0");
    }

    private static void linesAndCurves() {
        String scene = Scenes.open(0, 1, 2, 3, 4, 5, 6);
        due(scene, "M1 2L3 4L5 6");
        due(scene + "; setHandle(0, 0, true, 10, 0)", "M1 2C11 2 3 4 3 4L5 6");
        due(scene + "; setHandle(0, 0, true, 0, 10)", "M1 2C1 12 3 4 3 4L5 6");
        due(scene + "; setHandle(0, 1, false, 10, 0)", "M1 2C1 2 13 4 3 4L5 6");
        due(scene + "; setHandle(0, 1, false, 0, 10)", "M1 2C1 2 3 14 3 4L5 6");
        due(scene + "; setHandle(0, 1, true, 0, -10)", "M1 2L3 4C3 -6 5 6 5 6");
        due(scene + "; setHandle(0, 2, false, -10, 0)", "M1 2L3 4C3 4 -5 6 5 6");
        due(scene + "; setHandle(0, 1, true, 7, 8); setSmooth(0, 1, 1, 1)", "M1 2C1 2 -4 -4 3 4C10 12 5 6 5 6");
        due(scene + "; setSmooth(0, 0, 2, 1); setSmooth(0, 1, 1, 3); join(0, 0)", "M1 2L3 4L5 6Z");
    }

    private static void whatIsLeftOut() {
        String handles = "; setHandle(0, 0, false, 9, 9); setHandle(0, 1, true, 9, 9)";
        due(Scenes.open(0, 1, 2, 3, 4) + handles, "M1 2L3 4");
        due("addPath(1, 2); setHandle(0, 0, true, 9, 9); setHandle(0, 0, false, 9, 9)", "M1 2");
        due(Scenes.closed(0, 1, 2, 3, 4), "M1 2L3 4Z");
        due(Scenes.closed(0, 1, 2, 3, 4) + "; setHandle(0, 0, true, 9, 9)", "M1 2C10 11 3 4 3 4Z");
        due(Scenes.closed(0, 0, 0, 3, 4, 0, 0, 5, 5), "M0 0L3 4L0 0L5 5Z");
        due(Scenes.closed(0, 0, 0, 3, 4, 0, 0), "M0 0L3 4Z");
    }

    private static void lastSegment() {
        for (int nodes = 2; nodes <= 12; nodes++) {
            String scene = Scenes.closedRow(0, nodes, 0);
            for (String handle : new String[] {"1, 0", "0, 1", "-200, 200"}) {
                dueNone(scene + "; setHandle(0, " + (nodes - 1) + ", true, " + handle + ")");
                dueNone(scene + "; setHandle(0, 0, false, " + handle + ")");
                new Script(scene).due("setHandle(0, 0, true, " + handle + ")", 0)
                    .due("setHandle(0, " + (nodes - 1) + ", false, " + handle + ")", 0)
                    .due("print(0)", new Script(scene).answer("print(0)") + lengthOfCurves(handle, nodes));
            }
        }
    }

    /** How much longer a print becomes when the first and the last of its lines become curves. */
    private static int lengthOfCurves(String handle, int nodes) {
        String[] words = handle.split(", ");
        int dx = Integer.parseInt(words[0]);
        int dy = Integer.parseInt(words[1]);
        String first = dx + " " + dy;
        String last = nodes - 1 + dx + " " + dy;
        if (nodes == 2) {
            return (first + " " + last + " ").length();
        }
        return (first + " 1 0 ").length() + (nodes - 2 + " 0 " + last + " ").length();
    }

    // ---- what is broken

    /** One node that lies between units, in x or in y, is enough. */
    private static void nodesThatAreBroken() {
        for (int node = 0; node < 3; node++) {
            for (String half : new String[] {"1, 0", "0, 1"}) {
                String scene = Scenes.open(0, 0, 0, 6, 6, 12, 0) + "; moveNode(0, " + node + ", " + half + ")";
                due(scene + "; transform(0, 2, 0, 0, 2, 2)", new Script(scene).answer("print(0)"));
                dueNone(scene + "; transform(0, 1, 0, 0, 1, 2)");
                dueNone(scene + "; transform(0, 1, 0, 0, 1, 2); join(0, 0)");
                dueNone(scene + Scenes.times(6, "; transform(0, 1, 0, 0, 1, 6)").replace("; ; ", "; "));
            }
        }
    }

    private static void due(String scene, long length) {
        new Script(scene).due("print(0)", length);
    }

    /** Handles of halves: those of a segment, but not those of none, and those of lines are all 0. */
    private static void handlesThatAreBroken() {
        for (String half : new String[] {"1, 0", "0, 1", "-3, 4", "4, -3"}) {
            for (int node = 0; node < 3; node++) {
                for (String out : new String[] {"true", "false"}) {
                    String scene = Scenes.open(0, 0, 0, 6, 6, 12, 0) + "; setHandle(0, " + node + ", " + out + ", "
                        + half + "); transform(0, 1, 0, 0, 1, 2)";
                    boolean ofNone = node == 0 && out.equals("false") || node == 2 && out.equals("true");
                    if (ofNone) {
                        due(scene, "M0 0L3 3L6 0");
                        dueNone(scene + "; join(0, 0)");
                    } else {
                        dueNone(scene);
                        due(scene + "; setHandle(0, " + node + ", " + out + ", 0, 0)", "M0 0L3 3L6 0");
                    }
                }
            }
        }
    }

    private static void wholeAgain() {
        String scene = Scenes.open(0, 0, 0, 8, 0) + "; setHandle(0, 0, true, 0, 8); setHandle(0, 1, false, 0, 8)";
        new Script(scene).due("insert(0, 0, 1, 2)", 1).due("print(0)", 28).duePrinted("M0 0C0 4 2 6 4 6C6 6 8 4 8 0")
            .due("insert(0, 0, 1, 2)", 1).due("print(0)", NOT_POSSIBLE).duePrinted("M0 0C0 4 2 6 4 6C6 6 8 4 8 0")
            .due("transform(0, 8, 0, 0, 8, 1)", 4).due("print(0)", 55)
            .duePrinted("M0 0C0 16 4 28 10 36C16 44 24 48 32 48C48 48 64 32 64 0").due("undo()", 6)
            .due("print(0)", NOT_POSSIBLE).due("undo()", 5).due("print(0)", 28);
    }

    private static void inPlaceOfWhatWasPrinted() {
        new Script(Scenes.open(0, 100, 100, -100, -100), Scenes.open(1, 7, 8)).due("print(0)", 18).due("print(1)", 4)
            .duePrinted("M7 8").due("print(2)", BAD_INDEX).due("print(-1)", BAD_INDEX).duePrinted("M7 8")
            .due("removePath(1)", 1).duePrinted("M7 8").due("undo()", 3).duePrinted("M7 8").due("save(0)", 2)
            .due("restore(0)", 2).duePrinted("M7 8").due("clearText()", 0).duePrinted("M7 8").due("print(0)", 18)
            .duePrinted("M100 100L-100 -100").due("addPath(0, 0)", 2).due("print(2)", 4).duePrinted("M0 0");
        new Script().type("M5 6").duePrinted("").due("read()", 0).duePrinted("").due("print(0)", 4).duePrinted("M5 6")
            .due("clearText()", 4).duePrinted("M5 6");
    }

    // ---- read

    private static void readNodes() {
        new Script().type("M10 -20C1 2 -3 4 50 -60L7 8C9 100 -110 12 13 -14Z").due("read()", 0).due("isClosed(0)", 1)
            .due("nodes(0)", 4).dueNode(0, 0, 10 * U, -20 * U, 0, 0, -9 * U, 22 * U, NONE, NONE)
            .dueNode(0, 1, 50 * U, -60 * U, -53 * U, 64 * U, 0, 0, NONE, NONE)
            .dueNode(0, 2, 7 * U, 8 * U, 0, 0, 2 * U, 92 * U, NONE, NONE)
            .dueNode(0, 3, 13 * U, -14 * U, -123 * U, 26 * U, 0, 0, NONE, NONE);
        new Script().type("M-200 200C0 0 0 0 200 -200C0 0 0 0 -200 200").due("read()", 0).due("isClosed(0)", 0)
            .dueNode(0, 0, -200 * U, 200 * U, 0, 0, 200 * U, -200 * U, NONE, NONE)
            .dueNode(0, 1, 200 * U, -200 * U, -200 * U, 200 * U, -200 * U, 200 * U, NONE, NONE)
            .dueNode(0, 2, -200 * U, 200 * U, 200 * U, -200 * U, 0, 0, NONE, NONE);
        new Script().type("M1 1C1 1 2 2 2 2Z").due("read()", 0).due("print(0)", 9).duePrinted("M1 1L2 2Z");
    }

    private static void readAndPrinted() {
        String[] texts = {"M0 0", "M-1 200", "M0 0L0 0", "M0 0L0 0Z", "M1 2L3 4L5 6", "M1 2C3 4 5 6 7 8",
            "M-200 -200C-1 -2 -3 -4 -5 -6L9 10C11 12 13 14 15 16Z", "M0 0" + "L9 9".repeat(11) + "Z",
            "M5 5" + "C1 2 3 4 5 6".repeat(9) + "L0 10Z"};
        for (String text : texts) {
            new Script().type(text).due("read()", 0).due("print(0)", text.length()).duePrinted(text);
            new Script("addPath(0, 0)").type(text).due("read()", 1).due("removePath(0)", 1).due("read()", 1)
                .due("print(1)", text.length()).duePrinted(text);
        }
    }

    /** A path that is new has nothing of one that was removed or undone. */
    private static void newPathsInOldPlaces() {
        String old = Scenes.closed(0, 9, 9, 8, 8, 7, 7) + "; setHandle(0, 0, true, 1, 1); setSmooth(0, 0, 1, 1)";
        for (int rounds = 1; rounds <= 12; rounds++) {
            Script script = new Script(Scenes.times(rounds, old + "; removePath(0)"));
            script.due("addPath(1, 2)", 0).due("isClosed(0)", 0).due("nodes(0)", 1)
                .dueNode(0, 0, U, 2 * U, 0, 0, 0, 0, NONE, NONE).due("extend(0, 3, 4)", 2)
                .dueNode(0, 1, 3 * U, 4 * U, 0, 0, 0, 0, NONE, NONE);
        }
        for (int rounds = 1; rounds <= 14; rounds++) {
            Script script = new Script(Scenes.dots(6));
            script.make(Scenes.times(rounds, "removePath(1); addPath(20, 20); extend(5, 30, 30); removeNode(5, 0)"));
            for (int k = 0; k < 6; k++) {
                int x = k == 0 ? 0 : k + rounds > 5 ? 30 : k + rounds;
                script.due("nodes(" + k + ")", 1).due("coordinate(" + k + ", 0, 1)", x * U);
            }
            script.due("moveNode(5, 0, 0, 1)", 30 * U).due("coordinate(4, 0, 1)", (rounds < 2 ? 5 : 30) * U)
                .due("split(5, 0)", NOT_POSSIBLE).due("removePath(0)", 5).due("addPath(40, 0)", 5)
                .due("extend(5, 41, 0)", 2).due("nodes(4)", 1).due("coordinate(4, 0, 1)", 31 * U);
        }
        new Script(Scenes.row(0, 3, 0)).due("split(0, 1)", 2).due("removePath(0)", 1).due("extend(0, 3, 0)", 3)
            .due("split(0, 1)", 2).dueX(0, 1, 2).dueX(1, 2, 3).due("undo()", 6).due("addPath(8, 8)", 1).dueX(1, 8)
            .due("join(0, 1)", 4).due("paths()", 1).due("addPath(9, 9)", 1).dueX(1, 9).dueX(0, 1, 2, 3, 8);
    }
}
