/** For each promise of the document: ordinary inputs, the edges that it names, and wrong inputs. */
public final class PromisesTest {
    private static final int BAD_INDEX = -100000001;
    private static final int BAD_VALUE = -100000002;
    private static final int NOT_POSSIBLE = -100000003;
    private static final int FULL = -100000004;
    private static final int INEXACT = -100000005;
    private static final int OUT_OF_RANGE = -100000006;
    private static final int NONE = -100000007;
    private static final int U = 46656;
    private static final int MIN = Integer.MIN_VALUE;
    private static final int MAX = Integer.MAX_VALUE;

    private static PathEditor e = new PathEditor();
    private static String part = "";

    private PromisesTest() {
    }

    public static void main(String[] args) {
        newObject();
        addPath();
        extend();
        removePath();
        moveNode();
        setHandle();
        setSmooth();
        setCorner();
        insert();
        insertAndRatios();
        insertAndLimits();
        removeNode();
        splitClosed();
        splitOpen();
        joinTwo();
        joinSame();
        reverse();
        transform();
        shift();
        undo();
        redo();
        pathsAndNodes();
        isClosed();
        coordinate();
        ratio();
        point();
        area();
        box();
        find();
        corners();
        appendAndClear();
        faultsOfForm();
        faultsOfNumbers();
        faultsOfHandles();
        faultsOfNodes();
        read();
        print();
        printLong();
        printed();
        save();
        restore();
        checksum();
        Due.end();
    }

    // ---- what the tests are written in

    private static void begin(String name) {
        part = name;
        e = new PathEditor();
    }

    private static void due(String call, long got, long want) {
        Due.is(part + ": " + call, got, want);
    }

    /** Adds an open path of corners at x, y, x, y, .. */
    private static int line(int... units) {
        int path = e.addPath(units[0], units[1]);
        for (int k = 2; k < units.length; k += 2) {
            due("extend", e.extend(path, units[k], units[k + 1]), k / 2 + 1);
        }
        return path;
    }

    private static int ring(int... units) {
        int path = line(units);
        due("join", e.join(path, path), units.length / 2);
        return path;
    }

    private static void dueNode(int path, int node, int... parts) {
        for (int what = 0; what < 6; what++) {
            due("coordinate " + what + " of node " + node, e.coordinate(path, node, what), parts[what]);
        }
    }

    private static void dueRatio(int path, int node, int p, int q) {
        due("p of node " + node, e.ratio(path, node, false), p);
        due("q of node " + node, e.ratio(path, node, true), q);
    }

    private static void dueX(int path, int... units) {
        due("nodes", e.nodes(path), units.length);
        for (int k = 0; k < units.length; k++) {
            due("x of node " + k, e.coordinate(path, k, 0), units[k] * U);
        }
    }

    /** Of a call that reports an error, nothing may be left behind. */
    private static void dueError(String call, java.util.function.IntSupplier run, int want) {
        long before = e.checksum();
        due(call, run.getAsInt(), want);
        due("checksum after " + call, e.checksum(), before);
    }

    private static void type(String text) {
        e.clearText();
        for (int k = 0; k < text.length(); k++) {
            due("append", e.append(text.charAt(k)), k + 1);
        }
    }

    private static void dueFault(String text, int want) {
        e = new PathEditor();
        type(text);
        due("faultPosition of " + text, e.faultPosition(), want);
        due("read of " + text, e.read(), want == NONE ? 0 : NOT_POSSIBLE);
        due("paths after " + text, e.paths(), want == NONE ? 1 : 0);
    }

    private static void duePrint(int path, String want) {
        due("print " + want, e.print(path), want.length());
        duePrinted(want);
    }

    private static void duePrinted(String want) {
        for (int k = 0; k < want.length(); k++) {
            due("printed(" + k + ") of " + want, e.printed(k), want.charAt(k));
        }
        due("printed behind " + want, e.printed(want.length()), BAD_INDEX);
    }

    // ---- promise 1

    private static void newObject() {
        begin("1 a new object");
        due("paths", e.paths(), 0);
        due("undo", e.undo(), NOT_POSSIBLE);
        due("redo", e.redo(), NOT_POSSIBLE);
        due("clearText", e.clearText(), 0);
        due("printed(0)", e.printed(0), BAD_INDEX);
        due("restore(0)", e.restore(0), NOT_POSSIBLE);
        due("restore(1)", e.restore(1), NOT_POSSIBLE);
        PathEditor other = new PathEditor();
        other.addPath(1, 1);
        other.append('M');
        due("paths of another object", e.paths(), 0);
        due("text of another object", e.clearText(), 0);
    }

    // ---- paths: promises 2 to 4

    private static void addPath() {
        begin("2 addPath");
        due("addPath(200, -200)", e.addPath(200, -200), 0);
        due("addPath(-200, 200)", e.addPath(-200, 200), 1);
        dueNode(0, 0, 200 * U, -200 * U, 0, 0, 0, 0);
        dueNode(1, 0, -200 * U, 200 * U, 0, 0, 0, 0);
        due("isClosed", e.isClosed(0), 0);
        due("nodes", e.nodes(1), 1);
        dueRatio(1, 0, NONE, NONE);
        dueError("x 201", () -> e.addPath(201, 0), BAD_VALUE);
        dueError("x -201", () -> e.addPath(-201, 0), BAD_VALUE);
        dueError("y 201", () -> e.addPath(0, 201), BAD_VALUE);
        dueError("y least", () -> e.addPath(0, MIN), BAD_VALUE);
        for (int k = 2; k < 6; k++) {
            due("addPath", e.addPath(k, k), k);
        }
        dueError("a 7th path", () -> e.addPath(0, 0), FULL);
        dueError("BAD_VALUE goes before FULL", () -> e.addPath(0, 201), BAD_VALUE);
    }

    private static void extend() {
        begin("3 extend");
        due("addPath", e.addPath(1, 2), 0);
        due("extend", e.extend(0, -200, 200), 2);
        dueNode(0, 1, -200 * U, 200 * U, 0, 0, 0, 0);
        dueRatio(0, 1, NONE, NONE);
        dueError("path 1", () -> e.extend(1, 0, 0), BAD_INDEX);
        dueError("path -1, x 201", () -> e.extend(-1, 201, 0), BAD_INDEX);
        dueError("x 201", () -> e.extend(0, 201, 0), BAD_VALUE);
        dueError("y -201", () -> e.extend(0, 0, -201), BAD_VALUE);
        for (int k = 3; k <= 12; k++) {
            due("extend", e.extend(0, k, k), k);
        }
        dueError("a 13th node", () -> e.extend(0, 0, 0), FULL);
        due("join", e.join(0, 0), 12);
        dueError("closed and full", () -> e.extend(0, 0, 0), NOT_POSSIBLE);
        dueError("closed, x greatest", () -> e.extend(0, MAX, 0), BAD_VALUE);
    }

    private static void removePath() {
        begin("4 removePath");
        for (int k = 0; k < 4; k++) {
            line(k, 0, k + 10, 0);
        }
        due("removePath(1)", e.removePath(1), 3);
        dueX(0, 0, 10);
        dueX(1, 2, 12);
        dueX(2, 3, 13);
        dueError("path 3", () -> e.removePath(3), BAD_INDEX);
        dueError("path -1", () -> e.removePath(-1), BAD_INDEX);
        due("the last one", e.removePath(2), 2);
        due("removePath(0)", e.removePath(0), 1);
        due("removePath(0)", e.removePath(0), 0);
        dueError("none is left", () -> e.removePath(0), BAD_INDEX);
        begin("4 removePath, and new paths behind it");
        for (int k = 0; k < 14; k++) {
            ring(k, 0, k + 1, 0);
            line(k, 1);
            due("removePath", e.removePath(0), 1);
            due("a new path", e.addPath(k, 2), 1);
            due("isClosed", e.isClosed(1), 0);
            due("nodes", e.nodes(1), 1);
            due("extend", e.extend(1, k, 3), 2);
            dueX(0, k);
            dueX(1, k, k);
            due("removePath", e.removePath(1), 1);
            due("removePath", e.removePath(0), 0);
        }
    }

    // ---- nodes: promises 5 to 10

    private static void moveNode() {
        begin("5 moveNode");
        line(0, 0, 5, 6);
        e.setHandle(0, 1, false, 1, 2);
        e.setHandle(0, 1, true, 3, 4);
        due("moveNode", e.moveNode(0, 1, -105, 7), -100 * U);
        dueNode(0, 1, -100 * U, 13 * U, U, 2 * U, 3 * U, 4 * U);
        dueNode(0, 0, 0, 0, 0, 0, 0, 0);
        due("to the limit", e.moveNode(0, 1, -100, 187), -200 * U);
        dueError("x too small", () -> e.moveNode(0, 1, -1, 0), OUT_OF_RANGE);
        dueError("y too great", () -> e.moveNode(0, 1, 0, 1), OUT_OF_RANGE);
        dueError("dx 201", () -> e.moveNode(0, 1, 201, 0), BAD_VALUE);
        dueError("dy -201", () -> e.moveNode(0, 1, 0, -201), BAD_VALUE);
        dueError("node 2", () -> e.moveNode(0, 2, 201, 0), BAD_INDEX);
        dueError("node -1", () -> e.moveNode(0, -1, 0, 0), BAD_INDEX);
        dueError("path 1", () -> e.moveNode(1, 0, 0, 0), BAD_INDEX);
        due("with dx 200", e.moveNode(0, 1, 200, -200), 0);
    }

    private static void setHandle() {
        begin("6 setHandle");
        line(0, 0, 10, 10);
        due("in of a corner", e.setHandle(0, 1, false, 200, -200), 0);
        due("out of a corner", e.setHandle(0, 1, true, 3, 4), 0);
        dueNode(0, 1, 10 * U, 10 * U, 200 * U, -200 * U, 3 * U, 4 * U);
        due("setSmooth", e.setSmooth(0, 1, 2, 3), 0);
        due("out, ratio 2 : 3", e.setHandle(0, 1, true, 3, -6), 1);
        dueNode(0, 1, 10 * U, 10 * U, -2 * U, 4 * U, 3 * U, -6 * U);
        due("in, ratio 2 : 3", e.setHandle(0, 1, false, 1, 0), 1);
        dueNode(0, 1, 10 * U, 10 * U, U, 0, -3 * U / 2, 0);
        due("to 0", e.setHandle(0, 1, false, 0, 0), 1);
        dueNode(0, 1, 10 * U, 10 * U, 0, 0, 0, 0);
        dueError("out too great", () -> e.setHandle(0, 1, false, 134, 0), OUT_OF_RANGE);
        due("out whole and within", e.setHandle(0, 1, false, 133, 0), 1);
        due("setSmooth", e.setSmooth(0, 0, 7, 5), 0);
        dueError("in broken", () -> e.setHandle(0, 0, true, 1, 0), INEXACT);
        dueError("broken and too great", () -> e.setHandle(0, 0, true, 1, 200), INEXACT);
        dueError("too great and broken", () -> e.setHandle(0, 0, true, 200, 1), INEXACT);
        dueError("y too great", () -> e.setHandle(0, 0, true, 0, 200), OUT_OF_RANGE);
        dueError("dx 201", () -> e.setHandle(0, 0, true, 201, 0), BAD_VALUE);
        dueError("dy -201", () -> e.setHandle(0, 0, false, 1, -201), BAD_VALUE);
        dueError("node 2", () -> e.setHandle(0, 2, false, 201, 0), BAD_INDEX);
        dueError("path -1", () -> e.setHandle(-1, 0, false, 0, 0), BAD_INDEX);
    }

    private static void setSmooth() {
        begin("7 setSmooth");
        line(0, 0, 10, 10);
        e.setHandle(0, 0, true, 0, -4);
        e.setHandle(0, 0, false, 9, 9);
        due("in from out", e.setSmooth(0, 0, 6, 4), 0);
        dueRatio(0, 0, 3, 2);
        dueNode(0, 0, 0, 0, 0, 6 * U, 0, -4 * U);
        due("smooth before", e.setSmooth(0, 0, 999, 999), 1);
        dueRatio(0, 0, 1, 1);
        dueNode(0, 0, 0, 0, 0, 4 * U, 0, -4 * U);
        e.setHandle(0, 1, false, 3, 0);
        due("out from in", e.setSmooth(0, 1, 1, 2), 0);
        dueNode(0, 1, 10 * U, 10 * U, 3 * U, 0, -6 * U, 0);
        dueError("broken", () -> e.setSmooth(0, 1, 5, 7), INEXACT);
        dueError("too great", () -> e.setSmooth(0, 1, 34, 1), OUT_OF_RANGE);
        e.setHandle(0, 0, true, 1, 200);
        dueError("broken goes before too great", () -> e.setSmooth(0, 0, 8, 7), INEXACT);
        dueError("p 0", () -> e.setSmooth(0, 1, 0, 1), BAD_VALUE);
        dueError("p 1000", () -> e.setSmooth(0, 1, 1000, 1), BAD_VALUE);
        dueError("q 0", () -> e.setSmooth(0, 1, 1, 0), BAD_VALUE);
        dueError("q 1000", () -> e.setSmooth(0, 1, 1, 1000), BAD_VALUE);
        dueError("node 2", () -> e.setSmooth(0, 2, 0, 1), BAD_INDEX);
        dueError("path 1", () -> e.setSmooth(1, 0, 1, 1), BAD_INDEX);
        int bare = line(1, 1);
        due("no handles", e.setSmooth(bare, 0, 999, 998), 0);
        dueRatio(bare, 0, 999, 998);
        dueNode(bare, 0, U, U, 0, 0, 0, 0);
    }

    private static void setCorner() {
        begin("8 setCorner");
        line(0, 0, 10, 10);
        e.setHandle(0, 0, true, 2, 0);
        e.setSmooth(0, 0, 1, 2);
        due("smooth before", e.setCorner(0, 0), 1);
        dueRatio(0, 0, NONE, NONE);
        dueNode(0, 0, 0, 0, -U, 0, 2 * U, 0);
        due("corner before", e.setCorner(0, 0), 0);
        due("only one handle is set now", e.setHandle(0, 0, false, 7, 7), 0);
        dueError("node 2", () -> e.setCorner(0, 2), BAD_INDEX);
        dueError("path 1", () -> e.setCorner(1, 0), BAD_INDEX);
        due("the second one counts as a change", e.undo(), 6);
        due("reverse", e.reverse(0), 2);
        dueRatio(0, 1, NONE, NONE);
        due("the handles are kept", e.coordinate(0, 1, 4), -U);
    }

    private static void insert() {
        begin("9 insert");
        line(0, 0, 12, 6);
        e.setHandle(0, 0, true, 0, 8);
        e.setHandle(0, 1, false, -4, 0);
        e.setHandle(0, 0, false, 1, 1);
        e.setHandle(0, 1, true, 2, 2);
        due("insert 1 / 2", e.insert(0, 0, 1, 2), 1);
        due("nodes", e.nodes(0), 3);
        dueNode(0, 0, 0, 0, U, U, 0, 4 * U);
        dueNode(0, 1, 9 * U / 2, 6 * U, -5 * U / 2, -U / 2, 5 * U / 2, U / 2);
        dueNode(0, 2, 12 * U, 6 * U, -2 * U, 0, 2 * U, 2 * U);
        dueRatio(0, 0, NONE, NONE);
        dueRatio(0, 1, 1, 1);
        due("insert 2 / 6", e.insert(0, 0, 2, 6), 1);
        dueRatio(0, 1, 1, 2);
        dueRatio(0, 2, 2, 3);
        ring(0, 0, 6, 0, 6, 6);
        due("in the last segment of a closed path", e.insert(1, 2, 1, 3), 3);
        due("nodes", e.nodes(1), 4);
        due("x on a straight line", e.coordinate(1, 3, 0), 6 * U - 6 * U * 7 / 27);
        dueRatio(1, 3, 1, 2);
        dueError("segment 4", () -> e.insert(1, 4, 1, 2), BAD_INDEX);
        dueError("segment -1", () -> e.insert(1, -1, 1, 1), BAD_INDEX);
        dueError("segment 3 of an open path", () -> e.insert(0, 3, 0, 2), BAD_INDEX);
        dueError("path 2", () -> e.insert(2, 0, 1, 2), BAD_INDEX);
        dueError("a 0", () -> e.insert(1, 0, 0, 2), BAD_VALUE);
        dueError("a is b", () -> e.insert(1, 0, 2, 2), BAD_VALUE);
        dueError("b 1", () -> e.insert(1, 0, 1, 1), BAD_VALUE);
        dueError("b 7", () -> e.insert(1, 0, 1, 7), BAD_VALUE);
        dueError("b least", () -> e.insert(1, 0, MIN, MIN), BAD_VALUE);
        int one = line(1, 1);
        dueError("one node has no segment", () -> e.insert(one, 0, 1, 2), BAD_INDEX);
    }

    private static void insertAndRatios() {
        begin("9 insert, ratios");
        line(0, 0, 12, 0);
        e.setSmooth(0, 0, 3, 4);
        e.setSmooth(0, 1, 5, 6);
        due("insert 1 / 3", e.insert(0, 0, 1, 3), 1);
        dueRatio(0, 0, 9, 4);
        dueRatio(0, 1, 1, 2);
        dueRatio(0, 2, 5, 9);
        due("undo", e.undo(), 4);
        e.setSmooth(0, 0, 500, 1);
        e.setSmooth(0, 1, 1, 500);
        due("insert 1 / 2", e.insert(0, 0, 1, 2), 1);
        dueRatio(0, 0, NONE, NONE);
        dueRatio(0, 2, NONE, NONE);
        due("undo", e.undo(), 6);
        e.setSmooth(0, 0, 333, 1);
        e.setSmooth(0, 1, 1, 333);
        due("insert 1 / 3", e.insert(0, 0, 1, 3), 1);
        dueRatio(0, 0, 999, 1);
        dueRatio(0, 2, 2, 999);
        begin("9 insert, handles");
        line(0, 0, 27, 0);
        e.setHandle(0, 0, true, 9, 9);
        e.setHandle(0, 1, false, -9, 18);
        due("insert 2 / 3", e.insert(0, 0, 2, 3), 1);
        dueNode(0, 0, 0, 0, 0, 0, 6 * U, 6 * U);
        dueNode(0, 1, 18 * U, 10 * U, -6 * U, 2 * U, 3 * U, -U);
        dueNode(0, 2, 27 * U, 0, -3 * U, 6 * U, 0, 0);
        dueRatio(0, 1, 2, 1);
        begin("9 insert, ratios in lowest terms");
        line(0, 0, 12, 0);
        e.setSmooth(0, 0, 999, 998);
        e.setSmooth(0, 1, 998, 999);
        due("insert 1 / 2", e.insert(0, 0, 1, 2), 1);
        dueRatio(0, 0, 999, 499);
        dueRatio(0, 2, 499, 999);
    }

    private static void insertAndLimits() {
        begin("9 insert, limits");
        line(0, 0, 1, 0);
        due("thrice by 4 / 5", e.insert(0, 0, 4, 5), INEXACT);
        due("1 / 6", e.insert(0, 0, 1, 6), 1);
        due("1 / 6 again", e.insert(0, 1, 1, 6), 2);
        dueError("and again", () -> e.insert(0, 2, 1, 6), INEXACT);
        begin("9 insert, too far out");
        line(190, 0, 190, 10);
        e.setHandle(0, 0, true, 20, 0);
        e.setHandle(0, 1, false, 20, 0);
        dueError("1 / 2", () -> e.insert(0, 0, 1, 2), OUT_OF_RANGE);
        e.setHandle(0, 0, true, 20, 1);
        dueError("1 / 5, broken and too far out", () -> e.insert(0, 0, 2, 5), INEXACT);
        begin("9 insert, full");
        ring(0, 0, 1, 0, 2, 0, 3, 0, 4, 0, 5, 0, 6, 0, 7, 0, 8, 0, 9, 0, 10, 0, 11, 0);
        dueError("a 13th node", () -> e.insert(0, 0, 1, 2), FULL);
        dueError("FULL goes before INEXACT", () -> e.insert(0, 0, 1, 5), FULL);
        dueError("BAD_VALUE goes before FULL", () -> e.insert(0, 0, 5, 5), BAD_VALUE);
    }

    private static void removeNode() {
        begin("10 removeNode");
        ring(0, 0, 1, 0, 2, 0);
        e.setHandle(0, 0, true, 5, 6);
        e.setHandle(0, 2, false, 7, 8);
        due("a middle one", e.removeNode(0, 1), 2);
        dueNode(0, 0, 0, 0, 0, 0, 5 * U, 6 * U);
        dueNode(0, 1, 2 * U, 0, 7 * U, 8 * U, 0, 0);
        due("isClosed with 2", e.isClosed(0), 1);
        line(9, 9);
        due("node 0", e.removeNode(0, 0), 1);
        due("isClosed with 1", e.isClosed(0), 0);
        dueX(0, 2);
        due("extend", e.extend(0, 3, 0), 2);
        due("the last one", e.removeNode(0, 1), 1);
        dueError("node 1", () -> e.removeNode(0, 1), BAD_INDEX);
        dueError("node -1", () -> e.removeNode(0, -1), BAD_INDEX);
        dueError("path 2", () -> e.removeNode(2, 0), BAD_INDEX);
        due("the only one", e.removeNode(0, 0), 0);
        due("paths", e.paths(), 1);
        dueX(0, 9);
    }

    // ---- whole paths: promises 11 to 15

    private static void splitClosed() {
        begin("11 split, closed");
        ring(0, 0, 1, 0, 2, 0, 3, 0);
        e.setHandle(0, 2, true, 4, 6);
        e.setSmooth(0, 2, 1, 2);
        e.setHandle(0, 1, false, 3, 3);
        due("split(0, 2)", e.split(0, 2), 1);
        due("isClosed", e.isClosed(0), 0);
        dueX(0, 2, 3, 0, 1, 2);
        dueNode(0, 0, 2 * U, 0, -2 * U, -3 * U, 4 * U, 6 * U);
        dueNode(0, 4, 2 * U, 0, -2 * U, -3 * U, 4 * U, 6 * U);
        dueNode(0, 3, U, 0, 3 * U, 3 * U, 0, 0);
        dueRatio(0, 0, 1, 2);
        dueRatio(0, 4, 1, 2);
        begin("11 split, closed and full");
        ring(0, 0, 1, 0, 2, 0, 3, 0, 4, 0, 5, 0, 6, 0, 7, 0, 8, 0, 9, 0, 10, 0, 11, 0);
        dueError("12 nodes", () -> e.split(0, 0), FULL);
        due("removeNode", e.removeNode(0, 0), 11);
        for (int k = 1; k < 6; k++) {
            line(k, k);
        }
        due("with 6 paths", e.split(0, 10), 6);
        dueX(0, 11, 1, 2, 3, 4, 5, 6, 7, 8, 9, 10, 11);
    }

    private static void splitOpen() {
        begin("11 split, open");
        line(0, 0, 1, 0, 2, 0, 3, 0);
        line(9, 9);
        e.setHandle(0, 1, true, 6, 0);
        e.setSmooth(0, 1, 2, 3);
        due("split(0, 1)", e.split(0, 1), 3);
        dueX(0, 0, 1);
        dueX(1, 9);
        dueX(2, 1, 2, 3);
        dueNode(0, 1, U, 0, -4 * U, 0, 6 * U, 0);
        dueNode(2, 0, U, 0, -4 * U, 0, 6 * U, 0);
        dueRatio(0, 1, 2, 3);
        dueRatio(2, 0, 2, 3);
        dueError("the first one", () -> e.split(2, 0), NOT_POSSIBLE);
        dueError("the last one", () -> e.split(2, 2), NOT_POSSIBLE);
        dueError("node 3", () -> e.split(2, 3), BAD_INDEX);
        dueError("path 3", () -> e.split(3, 0), BAD_INDEX);
        dueError("the only one", () -> e.split(1, 0), NOT_POSSIBLE);
        line(5, 5);
        line(5, 5);
        line(5, 5);
        dueError("with 6 paths", () -> e.split(2, 1), FULL);
        dueError("NOT_POSSIBLE goes before FULL", () -> e.split(2, 0), NOT_POSSIBLE);
    }

    private static void joinTwo() {
        begin("12 join, two paths");
        line(0, 0, 1, 0);
        line(2, 0, 3, 0);
        line(3, 0, 4, 0);
        e.setHandle(1, 1, false, 1, 1);
        e.setHandle(1, 1, true, 8, 8);
        e.setHandle(2, 0, false, 9, 9);
        e.setHandle(2, 0, true, 2, 2);
        due("at the same position", e.join(1, 2), 3);
        dueX(1, 2, 3, 4);
        dueNode(1, 1, 3 * U, 0, U, U, 2 * U, 2 * U);
        dueRatio(1, 1, NONE, NONE);
        due("paths", e.paths(), 2);
        due("the lower one comes behind", e.join(1, 0), 5);
        due("paths", e.paths(), 1);
        dueX(0, 2, 3, 4, 0, 1);
        dueError("path 1", () -> e.join(0, 1), BAD_INDEX);
        dueError("path -1", () -> e.join(-1, 0), BAD_INDEX);
        ring(0, 0, 1, 1);
        dueError("the other one is closed", () -> e.join(0, 1), NOT_POSSIBLE);
        dueError("the one is closed", () -> e.join(1, 0), NOT_POSSIBLE);
        begin("12 join, only one coordinate is the same");
        line(0, 0, 1, 0);
        line(1, 1, 1, 0);
        due("y differs", e.join(0, 1), 4);
        line(2, 0, 1, 0);
        due("x differs", e.join(0, 1), 6);
        joinRatios();
        joinFull();
    }

    private static void joinRatios() {
        int[][] cases = {{1, 2, 1, 2, 2, 4, 1}, {1, 2, 2, 4, 2, 4, 1}, {1, 2, 1, 2, 2, 5, 0}, {1, 2, 1, 3, 2, 4, 0},
            {1, 2, 3, 2, 2, 4, 0}};
        for (int[] c : cases) {
            begin("12 join, ratios " + java.util.Arrays.toString(c));
            line(0, 0, 6, 0);
            line(6, 0, 12, 0);
            e.setSmooth(0, 1, c[0], c[1]);
            e.setSmooth(1, 0, c[2], c[3]);
            due("in of the former", e.setHandle(0, 1, false, -c[4], 0), 1);
            due("out of the latter", e.setHandle(1, 0, true, c[5], 0), 1);
            due("join", e.join(0, 1), 3);
            due("in", e.coordinate(0, 1, 2), -c[4] * U);
            due("out", e.coordinate(0, 1, 4), c[5] * U);
            dueRatio(0, 1, c[6] == 1 ? 1 : NONE, c[6] == 1 ? 2 : NONE);
        }
        begin("12 join, one of both smooth");
        line(0, 0, 6, 0);
        line(6, 0, 12, 0);
        e.setSmooth(0, 1, 1, 1);
        due("join", e.join(0, 1), 3);
        dueRatio(0, 1, NONE, NONE);
    }

    private static void joinFull() {
        begin("12 join, full");
        line(0, 0, 1, 0, 2, 0, 3, 0, 4, 0, 5, 0, 6, 0);
        line(6, 0, 7, 0, 8, 0, 9, 0, 10, 0, 11, 0);
        dueError("13 nodes", () -> e.join(1, 0), FULL);
        due("12 nodes", e.join(0, 1), 12);
        dueX(0, 0, 1, 2, 3, 4, 5, 6, 7, 8, 9, 10, 11);
    }

    private static void joinSame() {
        begin("12 join, the same path");
        line(0, 0, 6, 0, 6, 6);
        e.setHandle(0, 0, false, 1, 2);
        due("with a segment between", e.join(0, 0), 3);
        due("isClosed", e.isClosed(0), 1);
        dueNode(0, 0, 0, 0, U, 2 * U, 0, 0);
        dueError("closed", () -> e.join(0, 0), NOT_POSSIBLE);
        line(0, 0, 6, 0, 6, 6, 0, 0);
        e.setSmooth(1, 0, 1, 1);
        e.setSmooth(1, 3, 1, 1);
        e.setHandle(1, 0, true, 2, 3);
        e.setHandle(1, 3, true, 2, 3);
        due("two become one", e.join(1, 1), 3);
        dueNode(1, 0, 0, 0, -2 * U, -3 * U, 2 * U, 3 * U);
        dueRatio(1, 0, 1, 1);
        dueX(1, 0, 6, 6);
        due("isClosed", e.isClosed(1), 1);
        line(1, 1);
        dueError("one node", () -> e.join(2, 2), NOT_POSSIBLE);
        due("extend", e.extend(2, 1, 1), 2);
        dueError("two nodes at one position", () -> e.join(2, 2), NOT_POSSIBLE);
        due("moveNode", e.moveNode(2, 1, 1, 0), 2 * U);
        due("two nodes", e.join(2, 2), 2);
    }

    private static void reverse() {
        begin("13 reverse");
        ring(0, 0, 1, 0, 2, 0);
        e.setHandle(0, 0, true, 6, 0);
        e.setSmooth(0, 0, 2, 3);
        e.setHandle(0, 1, false, 7, 8);
        due("closed", e.reverse(0), 3);
        dueX(0, 2, 1, 0);
        due("isClosed", e.isClosed(0), 1);
        dueNode(0, 2, 0, 0, 6 * U, 0, -4 * U, 0);
        dueNode(0, 1, U, 0, 0, 0, 7 * U, 8 * U);
        dueRatio(0, 2, 3, 2);
        dueRatio(0, 1, NONE, NONE);
        line(0, 0, 1, 0, 2, 0, 3, 0);
        e.setHandle(1, 0, true, 3, 1);
        e.setSmooth(1, 0, 1, 2);
        e.setHandle(1, 3, false, 4, 5);
        due("open", e.reverse(1), 4);
        dueX(1, 3, 2, 1, 0);
        dueNode(1, 0, 3 * U, 0, 0, 0, 4 * U, 5 * U);
        dueNode(1, 3, 0, 0, 3 * U, U, -3 * U / 2, -U / 2);
        dueRatio(1, 0, NONE, NONE);
        dueRatio(1, 3, 2, 1);
        dueError("path 2", () -> e.reverse(2), BAD_INDEX);
        dueError("path -1", () -> e.reverse(-1), BAD_INDEX);
    }

    private static void transform() {
        begin("14 transform");
        line(2, 3, 4, 5);
        e.setHandle(0, 0, true, 6, -1);
        e.setSmooth(0, 0, 1, 2);
        e.setHandle(0, 1, false, 1, 1);
        due("transform", e.transform(0, 1, 2, -3, 4, 2), 2);
        dueNode(0, 0, 4 * U, 3 * U, -U, 11 * U / 2, 2 * U, -11 * U);
        dueNode(0, 1, 7 * U, 4 * U, 3 * U / 2, U / 2, 0, 0);
        dueRatio(0, 0, 1, 2);
        dueError("by 1 / 5", () -> e.transform(0, 1, 0, 0, 1, 5), INEXACT);
        due("to nothing", e.transform(0, 0, 0, 0, 0, 1), 2);
        dueNode(0, 0, 0, 0, 0, 0, 0, 0);
        due("shift", e.shift(0, 25, 22), 2);
        dueError("too great", () -> e.transform(0, 9, 0, 0, 1, 1), OUT_OF_RANGE);
        due("within", e.transform(0, 1, 0, 0, 9, 1), 2);
        dueError("too great and broken", () -> e.transform(0, 9, 1, 1, 0, 5), INEXACT);
        dueError("a 10", () -> e.transform(0, 10, 0, 0, 1, 1), BAD_VALUE);
        dueError("b -10", () -> e.transform(0, 1, -10, 0, 1, 1), BAD_VALUE);
        dueError("c 10", () -> e.transform(0, 1, 0, 10, 1, 1), BAD_VALUE);
        dueError("d -10", () -> e.transform(0, 1, 0, 0, -10, 1), BAD_VALUE);
        dueError("q 0", () -> e.transform(0, 1, 0, 0, 1, 0), BAD_VALUE);
        dueError("q 7", () -> e.transform(0, 1, 0, 0, 1, 7), BAD_VALUE);
        dueError("path 1", () -> e.transform(1, 1, 0, 0, 1, 0), BAD_INDEX);
        due("by -9 / 6", e.transform(0, -9, 0, 0, -1, 6), 2);
        due("x", e.coordinate(0, 0, 0), -75 * U / 2);
    }

    private static void shift() {
        begin("15 shift");
        line(2, 3, 4, 5);
        e.setHandle(0, 1, true, 6, -1);
        due("shift", e.shift(0, -200, 195), 2);
        dueNode(0, 0, -198 * U, 198 * U, 0, 0, 0, 0);
        dueNode(0, 1, -196 * U, 200 * U, 0, 0, 6 * U, -U);
        dueError("y of one node too great", () -> e.shift(0, 0, 1), OUT_OF_RANGE);
        dueError("x of one node too small", () -> e.shift(0, -3, 0), OUT_OF_RANGE);
        dueError("dx 201", () -> e.shift(0, 201, 0), BAD_VALUE);
        dueError("dy -201", () -> e.shift(0, 0, -201), BAD_VALUE);
        dueError("path 1", () -> e.shift(1, 201, 0), BAD_INDEX);
        due("by nothing", e.shift(0, 0, 0), 2);
        due("and that is a change", e.undo(), 4);
    }

    // ---- history: promises 16 and 17

    private static void undo() {
        begin("16 undo");
        line(0, 0);
        long[] sums = new long[20];
        sums[0] = e.checksum();
        for (int k = 1; k <= 15; k++) {
            due("shift", e.shift(0, 1, 0), 1);
            sums[k] = e.checksum();
        }
        due("no error is recorded", e.shift(0, 201, 0), BAD_VALUE);
        due("nor is a question", e.nodes(0), 1);
        for (int k = 14; k >= 5; k--) {
            due("undo", e.undo(), k - 5);
            due("checksum", e.checksum(), sums[k]);
        }
        dueError("more than 10 back", () -> e.undo(), NOT_POSSIBLE);
        due("redo", e.redo(), 9);
        due("checksum", e.checksum(), sums[6]);
        due("undo", e.undo(), 0);
        due("a change", e.shift(0, 1, 1), 1);
        due("nothing can be made again", e.redo(), NOT_POSSIBLE);
        due("undo of it", e.undo(), 0);
        due("checksum", e.checksum(), sums[5]);
        begin("16 undo of each call");
        type("M1 1L2 2");
        line(0, 0, 1, 1, 2, 2);
        e.read();
        due("read is a change", e.undo(), 3);
        due("paths", e.paths(), 1);
        due("append and clearText are none", e.clearText(), 8);
        due("redo", e.redo(), 0);
        due("save is none", e.save(0), 2);
        due("print is none", e.print(0), 12);
        due("undo", e.undo(), 3);
        due("redo", e.redo(), 0);
    }

    private static void redo() {
        begin("17 redo");
        line(0, 0);
        long[] sums = new long[13];
        for (int k = 0; k <= 12; k++) {
            sums[k] = e.checksum();
            e.shift(0, 1, 0);
        }
        due("undo", e.undo(), 9);
        due("redo", e.redo(), 0);
        dueError("redo", () -> e.redo(), NOT_POSSIBLE);
        for (int k = 9; k >= 0; k--) {
            due("undo", e.undo(), k);
        }
        for (int k = 0; k < 10; k++) {
            due("redo", e.redo(), 9 - k);
            if (k < 9) {
                due("checksum", e.checksum(), sums[k + 4]);
            }
        }
        due("all are recorded", e.undo(), 9);
        due("undo", e.undo(), 8);
        due("redo leaves the others", e.redo(), 1);
        due("an error leaves them", e.shift(0, 0, 201), BAD_VALUE);
        due("redo", e.redo(), 0);
    }

    // ---- what there is: promises 18 to 27

    private static void pathsAndNodes() {
        begin("18 paths, 19 nodes");
        due("nodes of none", e.nodes(0), BAD_INDEX);
        line(1, 1, 2, 2);
        due("paths", e.paths(), 1);
        due("nodes", e.nodes(0), 2);
        line(1, 1);
        due("paths", e.paths(), 2);
        due("nodes", e.nodes(1), 1);
        due("nodes(2)", e.nodes(2), BAD_INDEX);
        due("nodes(-1)", e.nodes(-1), BAD_INDEX);
        due("nodes of the greatest", e.nodes(MAX), BAD_INDEX);
        due("nodes of the least", e.nodes(MIN), BAD_INDEX);
        due("removePath", e.removePath(0), 1);
        due("paths", e.paths(), 1);
    }

    private static void isClosed() {
        begin("20 isClosed");
        line(1, 1, 2, 2);
        ring(1, 1, 2, 2);
        due("open", e.isClosed(0), 0);
        due("closed", e.isClosed(1), 1);
        due("path 2", e.isClosed(2), BAD_INDEX);
        due("path -1", e.isClosed(-1), BAD_INDEX);
    }

    private static void coordinate() {
        begin("21 coordinate");
        line(0, 0, 1, -2);
        e.setHandle(0, 1, false, 3, -4);
        e.setHandle(0, 1, true, -5, 6);
        dueNode(0, 1, U, -2 * U, 3 * U, -4 * U, -5 * U, 6 * U);
        due("what 6", e.coordinate(0, 1, 6), BAD_VALUE);
        due("what -1", e.coordinate(0, 1, -1), BAD_VALUE);
        due("what greatest", e.coordinate(0, 1, MAX), BAD_VALUE);
        due("node 2", e.coordinate(0, 2, 6), BAD_INDEX);
        due("node -1", e.coordinate(0, -1, 0), BAD_INDEX);
        due("path 1", e.coordinate(1, 0, 0), BAD_INDEX);
    }

    private static void ratio() {
        begin("22 ratio");
        line(0, 0, 1, 1);
        e.setSmooth(0, 1, 10, 15);
        dueRatio(0, 1, 2, 3);
        dueRatio(0, 0, NONE, NONE);
        dueRatio(0, 2, BAD_INDEX, BAD_INDEX);
        dueRatio(0, -1, BAD_INDEX, BAD_INDEX);
        dueRatio(1, 0, BAD_INDEX, BAD_INDEX);
    }

    private static void point() {
        begin("23 point");
        ring(0, 0, 6, 0, 12, 24);
        e.setHandle(0, 0, true, 0, 8);
        e.setHandle(0, 1, false, 2, 8);
        due("t = 0", e.point(0, 0, 0, 6, false), 0);
        due("t = 1", e.point(0, 0, 6, 6, false), 6 * U);
        due("t = 1 / 1", e.point(0, 0, 1, 1, true), 0);
        due("x for 1 / 2", e.point(0, 0, 1, 2, false), 15 * U / 4);
        due("y for 1 / 2", e.point(0, 0, 1, 2, true), 6 * U);
        due("y for 1 / 3", e.point(0, 0, 1, 3, true), 16 * U / 3);
        due("the last segment", e.point(0, 2, 1, 2, false), 6 * U);
        due("y for 1 / 5", e.point(0, 0, 1, 5, true), INEXACT);
        due("x for 0 / 5", e.point(0, 1, 0, 5, false), 6 * U);
        due("only x is broken", e.point(0, 0, 1, 5, false), INEXACT);
        line(0, 7, 1, 7);
        due("only x is broken, y", e.point(1, 0, 1, 5, true), 7 * U);
        due("only x is broken, x", e.point(1, 0, 1, 5, false), INEXACT);
        due("a -1", e.point(0, 0, -1, 2, false), BAD_VALUE);
        due("a above b", e.point(0, 0, 3, 2, false), BAD_VALUE);
        due("b 0", e.point(0, 0, 0, 0, false), BAD_VALUE);
        due("b 7", e.point(0, 0, 1, 7, false), BAD_VALUE);
        due("segment 3", e.point(0, 3, 0, 0, false), BAD_INDEX);
        due("segment 1 of an open path", e.point(1, 1, 0, 1, false), BAD_INDEX);
        due("segment -1", e.point(0, -1, 0, 1, false), BAD_INDEX);
        due("path 2", e.point(2, 0, 0, 1, false), BAD_INDEX);
        begin("23 point, far out");
        line(200, -200, 200, -200);
        e.setHandle(0, 0, true, 200, -200);
        e.setHandle(0, 1, false, 200, -200);
        due("x", e.point(0, 0, 1, 2, false), 350 * U);
        due("y", e.point(0, 0, 1, 2, true), -350 * U);
    }

    private static void area() {
        begin("24 area");
        long unit = 60L * U * U;
        ring(0, 0, 6, 0, 6, 6);
        due("a triangle", e.area(0), 18 * unit);
        e.reverse(0);
        due("the other way round", e.area(0), -18 * unit);
        line(0, 0, 6, 0);
        due("open", e.area(1), NOT_POSSIBLE);
        due("path 2", e.area(2), BAD_INDEX);
        due("path -1", e.area(-1), BAD_INDEX);
        due("two nodes without handles", e.area(ring(0, 0, 6, 6)), 0);
        int bow = ring(0, 0, 10, 0);
        e.setHandle(bow, 0, true, 0, -10);
        e.setHandle(bow, 1, false, 0, -10);
        due("a bow below a line", e.area(bow), 60 * unit);
        e.shift(bow, -190, 150);
        due("at another place", e.area(bow), 60 * unit);
        int wide = ring(-200, -200, 200, -200, 200, 200, -200, 200);
        due("the widest square", e.area(wide), 160000 * unit);
    }

    private static void box() {
        begin("25 box");
        int open = line(0, 0, 10, 5);
        e.setHandle(open, 0, false, -100, -100);
        e.setHandle(open, 1, true, 100, 100);
        dueBox(open, 0, 10, 0, 5);
        e.setHandle(open, 0, true, -1, 9);
        e.setHandle(open, 1, false, 3, -7);
        dueBox(open, -1, 13, -2, 9);
        due("join", e.join(open, open), 2);
        dueBox(open, -100, 110, -100, 105);
        int one = line(7, -8);
        e.setHandle(one, 0, true, 9, 9);
        dueBox(one, 7, 7, -8, -8);
        due("side 4", e.box(one, 4), BAD_VALUE);
        due("side -1", e.box(one, -1), BAD_VALUE);
        due("path 2", e.box(2, 4), BAD_INDEX);
        due("path -1", e.box(-1, 0), BAD_INDEX);
        int far = line(200, -200, 0, 0);
        e.setHandle(far, 0, true, 200, -200);
        dueBox(far, 0, 400, -400, 0);
    }

    private static void dueBox(int path, int... units) {
        for (int side = 0; side < 4; side++) {
            due("box side " + side, e.box(path, side), units[side] * U);
        }
    }

    private static void find() {
        begin("26 find");
        due("in none", e.find(0, 0), NONE);
        line(0, 0, 1, 1, 2, 2, 1, 1);
        line(1, 1, 200, -200, 2, 3);
        due("the lowest path and number", e.find(1, 1), 1);
        due("in another path", e.find(200, -200), 101);
        due("node 0", e.find(0, 0), 0);
        due("only x fits", e.find(2, 1), NONE);
        due("only y fits", e.find(0, 3), NONE);
        due("x 201", e.find(201, 0), BAD_VALUE);
        due("x -201", e.find(-201, 0), BAD_VALUE);
        due("y 201", e.find(0, 201), BAD_VALUE);
        due("y least", e.find(0, MIN), BAD_VALUE);
        e.moveNode(1, 2, 0, 1);
        due("moved", e.find(2, 4), 102);
        for (int k = 0; k < 14; k++) {
            e.extend(1, 50, 50);
            e.removeNode(1, 3);
            due("removed", e.find(50, 50), NONE);
        }
    }

    private static void corners() {
        begin("27 corners");
        line(0, 0, 1, 0, 2, 0, 3, 0);
        due("open", e.corners(0), 2);
        e.setSmooth(0, 1, 1, 1);
        e.setSmooth(0, 0, 1, 1);
        due("one of both is smooth", e.corners(0), 1);
        due("join", e.join(0, 0), 4);
        due("closed", e.corners(0), 2);
        e.setCorner(0, 0);
        due("node 0, too", e.corners(0), 3);
        line(0, 0);
        due("one node", e.corners(1), 0);
        line(0, 0, 1, 1);
        due("two nodes", e.corners(2), 0);
        due("path 3", e.corners(3), BAD_INDEX);
        due("path -1", e.corners(-1), BAD_INDEX);
    }

    // ---- text: promises 28 to 33

    private static void appendAndClear() {
        begin("28 append, 29 clearText");
        due("append(0)", e.append(0), 1);
        due("append(127)", e.append(127), 2);
        due("append(128)", e.append(128), BAD_VALUE);
        due("append(-1)", e.append(-1), BAD_VALUE);
        due("append of the least", e.append(MIN), BAD_VALUE);
        for (int k = 3; k <= 120; k++) {
            due("append", e.append('M'), k);
        }
        due("a 121st byte", e.append('M'), FULL);
        due("BAD_VALUE goes before FULL", e.append(128), BAD_VALUE);
        due("clearText", e.clearText(), 120);
        due("clearText", e.clearText(), 0);
        due("append", e.append('M'), 1);
        due("no change is recorded", e.undo(), NOT_POSSIBLE);
    }

    private static void faultsOfForm() {
        part = "30 faultPosition, form";
        dueFault("", 0);
        dueFault("m0 0", 0);
        dueFault(" M0 0", 0);
        dueFault("M", 1);
        dueFault("M 0 0", 1);
        dueFault("M0", 2);
        dueFault("M0 ", 3);
        dueFault("M0 0", NONE);
        dueFault("M0  0", 3);
        dueFault("M0 0 ", 4);
        dueFault("M0,0", 2);
        dueFault("M0 0L", 5);
        dueFault("M0 0L1 2", NONE);
        dueFault("M0 0 L1 2", 4);
        dueFault("M0 0L1 2 3", 8);
        dueFault("M0 0M1 2", 4);
        dueFault("M0 0C1 2 3 4 5", 14);
        dueFault("M0 0C1 2 3 4 5 6", NONE);
        dueFault("M0 0C1 2 3 4 5 6 7", 16);
        dueFault("M0 0C1 2L3 4", 8);
        dueFault("M0 0L1 1ZZ", 9);
        dueFault("M0 0L1 1ZL2 2", 9);
        dueFault("M0 0L1 1Z ", 9);
    }

    private static void faultsOfNumbers() {
        part = "30 faultPosition, numbers";
        dueFault("M00 0", 2);
        dueFault("M01 0", 2);
        dueFault("M-0 0", 2);
        dueFault("M-", 2);
        dueFault("M- 1", 2);
        dueFault("M--1", 2);
        dueFault("M+1", 1);
        dueFault("M1-", 2);
        dueFault("M-1 -10", NONE);
        dueFault("M200 -200", NONE);
        dueFault("M201", 1);
        dueFault("M201x", 1);
        dueFault("M0 -201", 3);
        dueFault("M-201 0", 1);
        dueFault("M0 0L1 2000000000000000000000000000000000000000001", 7);
        dueFault("M4294967296 0", 1);
        dueFault("M1234567890123456789012345678901234567890x", 1);
        dueFault("M0 1000", 3);
        dueFault("M0200 0", 2);
        dueFault("M-200 -200L-200 -200C-200 -200 -200 -200 -200 -200", NONE);
        dueFault("M200 200L200 200C200 200 200 200 200 200", NONE);
        dueFault("M200 200L201 200", 9);
        dueFault("M200 200L200 -201", 13);
        dueFault("M0 0C1 1 201 0 1 1", 9);
        dueFault("M0 0C1 1 0 -201 1 1", 11);
        type("M1 2L3 4");
        type("M1 ");
        due("nothing of an earlier text is left", e.faultPosition(), 3);
    }

    private static void faultsOfHandles() {
        part = "30 faultPosition, handles";
        dueFault("M100 0C-100 0 0 0 0 0", NONE);
        dueFault("M100 0C-101 0 0 0 0 0", 7);
        dueFault("M100 0C-101", 7);
        dueFault("M0 -1C0 199 0 0 0 0", NONE);
        dueFault("M0 -1C0 200 0 0 0 0", 8);
        dueFault("M0 0C0 0 150 0 -50 0", NONE);
        dueFault("M0 0C0 0 150 0 -51 0", 15);
        dueFault("M0 0C0 0 150 0 -51", 15);
        dueFault("M0 0C0 0 0 -150 0 50", NONE);
        dueFault("M0 0C0 0 0 -150 0 51", 18);
        dueFault("M9 9L150 0C-51 0 0 0 0 0", 11);
        dueFault("M9 9C9 9 0 0 0 -150C0 51 0 0 0 0", 22);
    }

    private static void faultsOfNodes() {
        part = "30 faultPosition, nodes";
        StringBuilder text = new StringBuilder("M0 0");
        for (int k = 2; k <= 12; k++) {
            text.append("L0 ").append(k % 10);
        }
        dueFault(text.toString(), NONE);
        dueFault(text + "L1 1", 48);
        dueFault(text + "C", 48);
        dueFault(text + "Z", NONE);
        dueFault(text + "X", 48);
        dueFault("M0 0Z", 4);
        dueFault("M0 0L0 0Z", NONE);
    }

    private static void read() {
        begin("31 read");
        due("an empty text", e.read(), NOT_POSSIBLE);
        type("M1 2L3 4C5 6 7 8 9 10L-11 -12Z");
        due("read", e.read(), 0);
        due("isClosed", e.isClosed(0), 1);
        due("nodes", e.nodes(0), 4);
        dueNode(0, 0, U, 2 * U, 0, 0, 0, 0);
        dueNode(0, 1, 3 * U, 4 * U, 0, 0, 2 * U, 2 * U);
        dueNode(0, 2, 9 * U, 10 * U, -2 * U, -2 * U, 0, 0);
        dueNode(0, 3, -11 * U, -12 * U, 0, 0, 0, 0);
        dueRatio(0, 1, NONE, NONE);
        due("the text stays", e.read(), 1);
        due("nodes", e.nodes(1), 4);
        due("clearText", e.clearText(), 30);
        type("M5 5");
        due("one node", e.read(), 2);
        due("isClosed", e.isClosed(2), 0);
        dueNode(2, 0, 5 * U, 5 * U, 0, 0, 0, 0);
        line(0, 0);
        line(0, 0);
        line(0, 0);
        dueError("with 6 paths", () -> e.read(), FULL);
        e.append('x');
        dueError("NOT_POSSIBLE goes before FULL", () -> e.read(), NOT_POSSIBLE);
    }

    private static void print() {
        begin("32 print");
        line(0, -6, 18, 0, 100, -109, 200, -200);
        e.setHandle(0, 0, false, 1, 1);
        e.setHandle(0, 3, true, 1, 1);
        duePrint(0, "M0 -6L18 0L100 -109L200 -200");
        e.setHandle(0, 0, true, 1, 2);
        e.setHandle(0, 3, false, 0, -200);
        duePrint(0, "M0 -6C1 -4 18 0 18 0L100 -109C100 -109 200 -400 200 -200");
        dueError("path 1", () -> e.print(1), BAD_INDEX);
        due("join", e.join(0, 0), 4);
        dueError("the last segment has handles", () -> e.print(0), NOT_POSSIBLE);
        duePrinted("M0 -6C1 -4 18 0 18 0L100 -109C100 -109 200 -400 200 -200");
        e.setHandle(0, 3, true, 0, 0);
        dueError("its in-handle", () -> e.print(0), NOT_POSSIBLE);
        e.setHandle(0, 0, false, 0, 0);
        duePrint(0, "M0 -6C1 -4 18 0 18 0L100 -109C100 -109 200 -400 200 -200Z");
        duePrint(line(-1, 10), "M-1 10");
        due("a change does not touch what is printed", e.removePath(1), 1);
        duePrinted("M-1 10");
        printBroken();
    }

    private static void printBroken() {
        begin("32 print, broken");
        line(1, 2);
        e.transform(0, 1, 0, 0, 1, 2);
        due("a position", e.print(0), NOT_POSSIBLE);
        due("removePath", e.removePath(0), 0);
        for (int k = 0; k < 14; k++) {
            e.addPath(1, 1);
            e.extend(0, 1, 0);
            e.transform(0, 1, 0, 0, 1, 6);
            e.removeNode(0, 1);
            e.transform(0, 6, 0, 0, 6, 1);
            duePrint(0, "M1 1");
            e.removePath(0);
        }
        begin("32 print, broken handles");
        line(0, 0, 2, 2, 4, 4);
        e.setHandle(0, 0, false, 1, 0);
        e.setHandle(0, 2, true, 0, 1);
        e.transform(0, 1, 0, 0, 1, 2);
        due("handles of no segment", e.print(0), 12);
        e.setHandle(0, 1, true, 1, 0);
        duePrint(0, "M0 0L1 1C2 1 2 2 2 2");
        e.transform(0, 2, 0, 0, 2, 1);
        e.setHandle(0, 1, true, 0, 1);
        e.transform(0, 1, 0, 0, 1, 2);
        due("an out-handle", e.print(0), NOT_POSSIBLE);
        e.setHandle(0, 1, true, 0, 0);
        duePrint(0, "M0 0L1 1L2 2");
        e.setHandle(0, 1, false, 1, 0);
        e.transform(0, 1, 0, 0, 1, 1);
        duePrint(0, "M0 0C0 0 2 1 1 1L2 2");
        e.transform(0, 2, 0, 0, 2, 1);
        e.setHandle(0, 1, false, 1, 0);
        e.transform(0, 1, 0, 0, 1, 2);
        due("an in-handle", e.print(0), NOT_POSSIBLE);
    }

    private static void printLong() {
        begin("32 print, the longest");
        StringBuilder want = new StringBuilder("M-200 -200");
        line(-200, -200, -200, -200, -200, -200, -200, -200, -200, -200, -200, -200, -200, -200, -200, -200,
            -200, -200, -200, -200, -200, -200, -200, -200);
        for (int k = 0; k < 11; k++) {
            e.setHandle(0, k, true, -200, -200);
            e.setHandle(0, k + 1, false, -200, -200);
            want.append("C-400 -400 -400 -400 -200 -200");
        }
        duePrint(0, want.toString());
    }

    private static void printed() {
        begin("33 printed");
        due("nothing", e.printed(0), BAD_INDEX);
        line(1, 2);
        due("print", e.print(0), 4);
        due("printed(0)", e.printed(0), 'M');
        due("printed(3)", e.printed(3), '2');
        due("printed(4)", e.printed(4), BAD_INDEX);
        due("printed(-1)", e.printed(-1), BAD_INDEX);
        due("printed of the greatest", e.printed(MAX), BAD_INDEX);
        due("printed of the least", e.printed(MIN), BAD_INDEX);
        line(100, 100);
        due("print", e.print(1), 8);
        due("print", e.print(0), 4);
        due("in place of the longer one", e.printed(4), BAD_INDEX);
    }

    // ---- slots, checksum: promises 34 to 36

    private static void save() {
        begin("34 save");
        due("no paths", e.save(1), 0);
        line(1, 1, 2, 2);
        due("one path", e.save(0), 1);
        due("slot 2", e.save(2), BAD_INDEX);
        due("slot -1", e.save(-1), BAD_INDEX);
        due("the history stays", e.undo(), 1);
        due("restore", e.restore(1), 0);
        line(3, 3);
        line(4, 4);
        due("in place", e.save(0), 2);
        due("restore", e.restore(1), 0);
        due("restore", e.restore(0), 2);
        dueX(0, 3);
        dueX(1, 4);
    }

    private static void restore() {
        begin("35 restore");
        dueError("nothing saved", () -> e.restore(0), NOT_POSSIBLE);
        due("slot 2", e.restore(2), BAD_INDEX);
        due("slot -1", e.restore(-1), BAD_INDEX);
        int path = ring(0, 0, 6, 0, 6, 6);
        e.setSmooth(path, 1, 2, 3);
        long sum = e.checksum();
        due("save", e.save(1), 1);
        dueError("nothing in the other slot", () -> e.restore(0), NOT_POSSIBLE);
        e.moveNode(0, 0, 1, 1);
        e.addPath(5, 5);
        due("undo", e.undo(), 6);
        due("restore", e.restore(1), 1);
        due("checksum", e.checksum(), sum);
        due("no history", e.undo(), NOT_POSSIBLE);
        due("nothing to be made again", e.redo(), NOT_POSSIBLE);
        e.removePath(0);
        due("the slot keeps them", e.restore(1), 1);
        e.moveNode(0, 0, 1, 1);
        due("also from changes behind it", e.restore(1), 1);
        due("checksum", e.checksum(), sum);
    }

    private static void checksum() {
        begin("36 checksum");
        due("without paths", e.checksum(), 31 * 59);
        e.addPath(1, -2);
        long h = 31 * 59 + 1;
        for (long value : new long[] {1, 0, U, -2 * U, 0, 0, 0, 0, NONE, NONE}) {
            h = 31 * h + value;
        }
        due("one node", e.checksum(), h);
        begin("36 checksum, closed");
        ring(0, 0, 6, 0);
        e.setHandle(0, 1, true, 0, 6);
        e.setSmooth(0, 1, 1, 2);
        e.addPath(3, 4);
        h = 31 * 59 + 2;
        for (long value : new long[] {2, 1, 0, 0, 0, 0, 0, 0, NONE, NONE, 6 * U, 0, 0, -3 * U, 0, 6 * U, 1, 2,
            e.area(0), 1, 0, 3 * U, 4 * U, 0, 0, 0, 0, NONE, NONE}) {
            h = 31 * h + value;
        }
        due("two paths", e.checksum(), h);
    }
}
