import java.util.ArrayList;
import java.util.List;

/**
 * Calls that report an error: the error is the first one of the @return line that applies, and afterwards every answer
 * is as it was before. Each call is made on an object of its own, which is compared with one that did without it.
 */
public final class RefusedTest {
    private static final int BAD_INDEX = Script.BAD_INDEX;
    private static final int BAD_VALUE = Script.BAD_VALUE;
    private static final int NOT_POSSIBLE = Script.NOT_POSSIBLE;
    private static final int FULL = Script.FULL;
    private static final int INEXACT = Script.INEXACT;
    private static final int OUT_OF_RANGE = Script.OUT_OF_RANGE;
    private static final int NONE = Script.NONE;

    // 6 paths: open and full; closed and full; open with ratios 7 : 11 and 1 : 2; closed with handles; one node at a
    // corner of the range; handles that lead out of the range. Behind it, 7 states and 3 that can be made again.
    private static final String[] CROWDED = {
        Scenes.row(0, 12, 0),
        Scenes.closedRow(1, 12, 1),
        Scenes.open(2, 0, 6, 6, 6, 12, 12),
        "setSmooth(2, 0, 7, 11); setHandle(2, 1, true, 6, 2); setSmooth(2, 1, 1, 2)",
        Scenes.closed(3, 0, 0, 30, 0, 30, 30),
        "setHandle(3, 0, true, 6, 0); setHandle(3, 0, false, 0, 6)",
        "addPath(200, -200); setHandle(4, 0, true, 200, 1)",
        Scenes.open(5, 200, 0, 190, 10),
        "setHandle(5, 0, true, 100, 0); setHandle(5, 1, false, 100, 0)",
        typed("M1 2C3 4 5 6 7 8L9 10Z"),
        "print(0); save(0); moveNode(2, 0, 1, 1); setCorner(2, 1); removePath(3); undo(); undo(); undo()"
    };
    private static final String[] EMPTY = {};
    // Two paths of which one can take nothing but errors at its ends, a text with a fault, all states undone.
    private static final String[] UNDONE = {
        Scenes.open(0, 5, 5, 5, 5), "addPath(1, 1)", Scenes.times(10, "shift(1, 1, 0)"), typed("M1 1Z"),
        Scenes.times(10, "undo()")
    };
    // 6 paths and a text of 120 bytes with a fault; nothing can be made again.
    private static final String[] FULL_TEXT = {Scenes.dots(6), Scenes.times(120, "append(77)")};
    private static final String[] RESTORED = {
        "addPath(0, 0); save(1); addPath(1, 1); addPath(2, 2); undo(); restore(1)"
    };

    private static String[] scene = EMPTY;
    private static List<List<String>> rounds = List.of();
    private static List<List<Long>> before = List.of();

    private RefusedTest() {
    }

    public static void main(String[] args) {
        begin(CROWDED);
        pathsInACrowd();
        nodesInACrowd();
        handlesInACrowd();
        insertInACrowd();
        wholePathsInACrowd();
        joinInACrowd();
        transformsInACrowd();
        questionsInACrowd();
        textAndSlotsInACrowd();
        begin(EMPTY);
        inAnEmptyEditor();
        begin(UNDONE);
        allUndone();
        begin(FULL_TEXT);
        fullText();
        begin(RESTORED);
        restored();
        Due.end();
    }

    // ---- how answers are compared

    private static String typed(String text) {
        StringBuilder calls = new StringBuilder();
        for (char letter : text.toCharArray()) {
            calls.append("append(").append((int) letter).append("); ");
        }
        return calls.substring(0, calls.length() - 2);
    }

    private static void begin(String[] calls) {
        scene = calls;
        int room = 511 - new Script(scene).calls();
        rounds = new ArrayList<>();
        List<String> questions = questions();
        for (int k = 0; k < questions.size(); k += room) {
            rounds.add(questions.subList(k, Math.min(k + room, questions.size())));
        }
        rounds.addAll(List.of(history(), text(), print(), slots()));
        before = answers("");
    }

    private static List<List<Long>> answers(String call) {
        List<List<Long>> all = new ArrayList<>();
        for (List<String> round : rounds) {
            Script script = new Script(scene).make(call);
            all.add(round.stream().map(script::answer).toList());
        }
        return all;
    }

    private static List<String> questions() {
        List<String> calls = new ArrayList<>(List.of("paths()", "checksum()", "faultPosition()"));
        for (int path = 0; path < 6; path++) {
            for (String name : List.of("nodes", "isClosed", "area", "corners")) {
                calls.add(name + "(" + path + ")");
            }
            for (int side = 0; side < 4; side++) {
                calls.add("box(" + path + ", " + side + ")");
            }
            for (int node = 0; node < 12; node++) {
                String at = "(" + path + ", " + node;
                for (int what = 0; what < 6; what++) {
                    calls.add("coordinate" + at + ", " + what + ")");
                }
                calls.addAll(List.of("ratio" + at + ", false)", "ratio" + at + ", true)",
                    "point" + at + ", 1, 2, false)", "point" + at + ", 2, 3, true)"));
            }
            calls.add("find(" + path + ", " + path + ")");
        }
        return calls;
    }

    /** To the end of what can be made again, back to the beginning, and again to the end. */
    private static List<String> history() {
        List<String> calls = new ArrayList<>();
        for (String way : List.of("redo()", "undo()", "redo()")) {
            for (int k = 0; k < 11; k++) {
                calls.addAll(List.of(way, "checksum()", "paths()"));
            }
        }
        return calls;
    }

    private static List<String> text() {
        return List.of("faultPosition()", "removePath(5)", "read()", "checksum()", "print(5)", "append(48)",
            "faultPosition()", "clearText()", "faultPosition()");
    }

    private static List<String> print() {
        List<String> calls = new ArrayList<>();
        for (int k = -1; k < 130; k++) {
            calls.add("printed(" + k + ")");
        }
        return calls;
    }

    private static List<String> slots() {
        return List.of("restore(0)", "checksum()", "undo()", "redo()", "restore(1)", "checksum()", "undo()", "redo()");
    }

    private static void refused(String call, int want) {
        new Script(scene).due(call, want);
        List<List<Long>> after = answers(call);
        for (int k = 0; k < rounds.size(); k++) {
            for (int j = 0; j < rounds.get(k).size(); j++) {
                Due.is(rounds.get(k).get(j) + " after the refused " + call + " (place " + j + ")", after.get(k).get(j),
                    before.get(k).get(j));
            }
        }
    }

    private static void refusedAll(int want, String... calls) {
        for (String call : calls) {
            refused(call, want);
        }
    }

    // ---- 6 paths, of which two have 12 nodes

    private static void pathsInACrowd() {
        refused("addPath(0, 0)", FULL);
        refusedAll(BAD_VALUE, "addPath(201, 0)", "addPath(0, -201)", "addPath(-201, 201)");
        refusedAll(BAD_INDEX, "extend(6, 0, 0)", "extend(-1, 0, 0)", "extend(6, 201, 0)", "extend(-1, 0, -201)");
        refusedAll(BAD_VALUE, "extend(2, 201, 0)", "extend(3, 0, -201)", "extend(1, 0, 201)", "extend(0, -201, 0)");
        refusedAll(NOT_POSSIBLE, "extend(3, 0, 0)", "extend(1, 0, 0)");
        refused("extend(0, 0, 0)", FULL);
        refusedAll(BAD_INDEX, "removePath(6)", "removePath(-1)", "removePath(MIN)", "removePath(MAX)");
    }

    private static void nodesInACrowd() {
        refusedAll(BAD_INDEX, "moveNode(6, 0, 0, 0)", "moveNode(-1, 0, 0, 0)", "moveNode(2, 3, 0, 0)",
            "moveNode(2, -1, 0, 0)", "moveNode(2, 3, 201, 0)", "moveNode(6, 0, 0, 201)");
        refusedAll(BAD_VALUE, "moveNode(2, 0, 201, 0)", "moveNode(2, 0, 0, -201)", "moveNode(4, 0, 201, 0)",
            "moveNode(4, 0, 1, -201)");
        refusedAll(OUT_OF_RANGE, "moveNode(4, 0, 1, 0)", "moveNode(4, 0, 0, -1)", "moveNode(5, 0, 200, 200)");
        refusedAll(BAD_INDEX, "setCorner(6, 0)", "setCorner(2, 3)", "setCorner(2, -1)", "setCorner(-1, 1)");
        refusedAll(BAD_INDEX, "removeNode(6, 0)", "removeNode(2, 3)", "removeNode(2, -1)", "removeNode(-1, 0)");
    }

    private static void handlesInACrowd() {
        refusedAll(BAD_INDEX, "setHandle(6, 0, true, 0, 0)", "setHandle(2, 3, false, 0, 0)",
            "setHandle(2, -1, true, 201, 0)", "setHandle(-1, 0, false, 0, 201)");
        refusedAll(BAD_VALUE, "setHandle(2, 1, true, 201, 0)", "setHandle(2, 1, false, 0, -201)",
            "setHandle(2, 0, true, 1, 201)", "setHandle(2, 0, false, 201, 1)", "setHandle(2, 0, false, 154, 201)");
        refusedAll(INEXACT, "setHandle(2, 0, true, 1, 0)", "setHandle(2, 0, true, 0, 1)",
            "setHandle(2, 0, false, 1, 0)", "setHandle(2, 0, false, 154, 1)", "setHandle(2, 0, false, 1, 154)",
            "setHandle(2, 0, false, 153, 0)");
        refusedAll(OUT_OF_RANGE, "setHandle(2, 0, false, 154, 0)", "setHandle(2, 0, false, 0, -154)",
            "setHandle(2, 1, false, 101, 0)", "setHandle(2, 1, false, 0, 101)");
        refusedAll(BAD_INDEX, "setSmooth(6, 0, 1, 1)", "setSmooth(2, 3, 1, 1)", "setSmooth(2, -1, 0, 1)",
            "setSmooth(-1, 0, 1, 1000)");
        refusedAll(BAD_VALUE, "setSmooth(2, 1, 0, 1)", "setSmooth(2, 1, 1000, 7)", "setSmooth(2, 1, 34, 0)",
            "setSmooth(2, 1, 5, 1000)", "setSmooth(4, 0, 1000, 1)");
        refusedAll(INEXACT, "setSmooth(2, 1, 5, 7)", "setSmooth(4, 0, 8, 7)", "setSmooth(4, 0, 26, 25)",
            "setSmooth(4, 0, 24, 25)");
        refusedAll(OUT_OF_RANGE, "setSmooth(2, 1, 34, 1)", "setSmooth(4, 0, 9, 8)");
    }

    private static void insertInACrowd() {
        refusedAll(BAD_INDEX, "insert(6, 0, 1, 2)", "insert(-1, 0, 1, 2)", "insert(2, 2, 1, 2)", "insert(2, -1, 1, 2)",
            "insert(3, 3, 1, 2)", "insert(4, 0, 1, 2)", "insert(0, 11, 1, 2)", "insert(1, 12, 1, 2)",
            "insert(2, 2, 0, 2)", "insert(6, 0, 1, 7)");
        refusedAll(BAD_VALUE, "insert(2, 0, 0, 2)", "insert(2, 0, 2, 2)", "insert(2, 0, 1, 7)", "insert(2, 0, 1, 1)",
            "insert(0, 0, 2, 2)", "insert(1, 0, 1, 7)", "insert(2, 0, 5, 5)", "insert(5, 0, 0, 5)");
        refusedAll(FULL, "insert(0, 0, 1, 2)", "insert(1, 11, 1, 2)", "insert(1, 11, 1, 5)", "insert(0, 0, 4, 5)");
        refusedAll(INEXACT, "insert(2, 0, 2, 5)", "insert(5, 0, 1, 5)", "insert(5, 0, 4, 5)");
        refusedAll(OUT_OF_RANGE, "insert(5, 0, 1, 2)", "insert(5, 0, 1, 3)", "insert(5, 0, 5, 6)");
    }

    private static void wholePathsInACrowd() {
        refusedAll(BAD_INDEX, "split(6, 0)", "split(-1, 0)", "split(2, 3)", "split(2, -1)", "split(1, 12)",
            "split(0, 12)");
        refusedAll(NOT_POSSIBLE, "split(2, 0)", "split(2, 2)", "split(4, 0)", "split(0, 0)", "split(0, 11)");
        refusedAll(FULL, "split(2, 1)", "split(0, 10)", "split(1, 0)", "split(1, 5)", "split(1, 11)");
        refusedAll(BAD_INDEX, "reverse(6)", "reverse(-1)", "reverse(MIN)", "reverse(MAX)");
    }

    private static void joinInACrowd() {
        refusedAll(BAD_INDEX, "join(6, 0)", "join(0, 6)", "join(6, 6)", "join(-1, 2)", "join(2, -1)", "join(3, 6)",
            "join(-1, 1)");
        refusedAll(NOT_POSSIBLE, "join(3, 2)", "join(2, 3)", "join(3, 3)", "join(4, 4)", "join(1, 0)", "join(0, 1)",
            "join(1, 1)", "join(1, 3)");
        refusedAll(FULL, "join(0, 2)", "join(2, 0)", "join(0, 4)", "join(4, 0)");
    }

    private static void transformsInACrowd() {
        refusedAll(BAD_INDEX, "transform(6, 1, 0, 0, 1, 1)", "transform(-1, 1, 0, 0, 1, 1)",
            "transform(6, 10, 0, 0, 1, 1)", "transform(6, 1, 0, 0, 1, 0)");
        refusedAll(BAD_VALUE, "transform(2, 10, 0, 0, 1, 1)", "transform(2, 1, -10, 0, 1, 1)",
            "transform(2, 1, 0, 10, 1, 1)", "transform(2, 1, 0, 0, -10, 1)", "transform(2, 1, 0, 0, 1, 0)",
            "transform(2, 1, 0, 0, 1, 7)", "transform(4, 10, 0, 0, 1, 5)", "transform(2, 1, 0, 0, 1, -1)");
        refusedAll(INEXACT, "transform(2, 1, 0, 0, 1, 5)", "transform(4, 9, 0, 0, 1, 5)",
            "transform(4, 9, 0, 1, 1, 5)");
        refusedAll(OUT_OF_RANGE, "transform(4, 9, 0, 0, 1, 1)", "transform(4, 1, 0, 0, 2, 1)",
            "transform(5, 1, 2, 0, 1, 1)", "transform(4, 1, 1, 0, 0, 1)");
        refusedAll(BAD_INDEX, "shift(6, 0, 0)", "shift(-1, 0, 0)", "shift(6, 201, 0)", "shift(-1, 0, -201)");
        refusedAll(BAD_VALUE, "shift(2, 201, 0)", "shift(2, 0, -201)", "shift(4, 201, 0)", "shift(4, 1, 201)");
        refusedAll(OUT_OF_RANGE, "shift(4, 1, 0)", "shift(4, 0, -1)", "shift(5, 1, 0)", "shift(0, 190, 0)");
    }

    private static void questionsInACrowd() {
        refusedAll(BAD_INDEX, "nodes(6)", "nodes(-1)", "isClosed(6)", "isClosed(-1)", "corners(6)", "corners(-1)",
            "area(6)", "area(-1)", "box(6, 0)", "box(-1, 4)", "print(6)", "print(-1)");
        refusedAll(BAD_INDEX, "coordinate(6, 0, 0)", "coordinate(2, 3, 0)", "coordinate(2, -1, 6)",
            "coordinate(-1, 0, -1)", "ratio(6, 0, false)", "ratio(2, 3, true)", "ratio(2, -1, true)");
        refusedAll(BAD_VALUE, "coordinate(2, 0, 6)", "coordinate(2, 0, -1)", "box(2, 4)", "box(2, -1)");
        refusedAll(BAD_INDEX, "point(6, 0, 1, 2, false)", "point(2, 2, 1, 2, false)", "point(2, -1, 3, 2, true)",
            "point(3, 3, 0, 0, true)", "point(4, 0, 0, 1, false)");
        refusedAll(BAD_VALUE, "point(2, 0, -1, 2, false)", "point(2, 0, 3, 2, true)", "point(2, 0, 0, 0, true)",
            "point(2, 0, 1, 7, false)", "point(2, 0, 6, 5, false)");
        refusedAll(INEXACT, "point(2, 0, 1, 5, false)", "point(2, 0, 4, 5, true)");
        refusedAll(NOT_POSSIBLE, "area(0)", "area(4)", "print(3)");
        refusedAll(NONE, "find(-200, 200)", "ratio(0, 0, false)", "ratio(0, 11, true)", "faultPosition()");
        refusedAll(BAD_VALUE, "find(201, 0)", "find(0, -201)", "find(-201, 201)");
    }

    private static void textAndSlotsInACrowd() {
        refusedAll(BAD_VALUE, "append(128)", "append(-1)", "append(MIN)", "append(MAX)");
        refused("read()", FULL);
        refusedAll(BAD_INDEX, "printed(-1)", "printed(50)", "printed(MAX)", "printed(MIN)");
        refusedAll(BAD_INDEX, "save(2)", "save(-1)", "restore(2)", "restore(-1)", "restore(MAX)", "save(MIN)");
        refused("restore(1)", NOT_POSSIBLE);
    }

    // ---- other scenes

    private static void inAnEmptyEditor() {
        refusedAll(NOT_POSSIBLE, "undo()", "redo()", "restore(0)", "restore(1)", "read()");
        refusedAll(BAD_INDEX, "extend(0, 0, 0)", "removePath(0)", "moveNode(0, 0, 0, 0)", "setHandle(0, 0, true, 0, 0)",
            "setSmooth(0, 0, 1, 1)", "setCorner(0, 0)", "insert(0, 0, 1, 2)", "removeNode(0, 0)", "split(0, 0)",
            "join(0, 0)", "reverse(0)", "transform(0, 1, 0, 0, 1, 1)", "shift(0, 0, 0)", "nodes(0)", "isClosed(0)",
            "coordinate(0, 0, 0)", "ratio(0, 0, false)", "point(0, 0, 0, 1, false)", "area(0)", "box(0, 0)",
            "corners(0)", "print(0)", "printed(0)");
        refusedAll(BAD_VALUE, "addPath(201, 0)", "find(0, 201)", "append(128)");
        refused("find(0, 0)", NONE);
        refused("faultPosition()", 0);
    }

    private static void allUndone() {
        refusedAll(NOT_POSSIBLE, "undo()", "join(0, 0)", "join(1, 1)", "split(0, 0)", "split(0, 1)", "split(1, 0)",
            "area(0)", "read()");
        refused("faultPosition()", 4);
        refusedAll(BAD_INDEX, "extend(2, 0, 0)", "join(0, 2)", "join(2, 0)", "insert(0, 1, 1, 2)", "insert(1, 0, 1, 2)",
            "removePath(2)", "removeNode(1, 1)", "split(0, 2)");
        refusedAll(BAD_VALUE, "addPath(0, 201)", "extend(0, 201, 0)", "shift(0, 201, 0)");
        refusedAll(OUT_OF_RANGE, "shift(0, 196, 0)", "moveNode(1, 0, 200, 0)");
        refused("transform(0, 1, 0, 0, 1, 0)", BAD_VALUE);
    }

    private static void fullText() {
        refusedAll(FULL, "append(0)", "append(77)", "append(127)", "addPath(0, 0)");
        refusedAll(BAD_VALUE, "append(128)", "append(-1)");
        refused("faultPosition()", 1);
        refusedAll(NOT_POSSIBLE, "read()", "redo()", "area(5)");
    }

    private static void restored() {
        refusedAll(NOT_POSSIBLE, "undo()", "redo()", "restore(0)");
        refused("restore(2)", BAD_INDEX);
    }
}
