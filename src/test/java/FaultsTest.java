/** The form of the text, byte by byte: behind each beginning, what may come next, and the fault of all that may not. */
public final class FaultsTest {
    private static final int NOT_POSSIBLE = Script.NOT_POSSIBLE;
    private static final int NONE = Script.NONE;
    private static final String FIRST = "-0123456789";
    private static final String BEHIND_MINUS = "123456789";
    private static final String DIGITS = "0123456789";

    private FaultsTest() {
    }

    public static void main(String[] args) {
        firstPosition();
        lines();
        curves();
        ends();
        numbersOfEveryPlace();
        greatNumbers();
        outHandles();
        inHandles();
        handlesOfLongNumbers();
        thirteenthNode();
        closing();
        firstOfManyFaults();
        textsThatChange();
        Due.end();
    }

    /** A whole text: the fault, and that read() refuses it or adds a path. */
    private static void due(String text, int fault) {
        new Script().type(text).due("faultPosition()", fault).due("read()", fault == NONE ? 0 : NOT_POSSIBLE)
            .due("faultPosition()", fault).due("paths()", fault == NONE ? 1 : 0)
            .due("undo()", fault == NONE ? 0 : NOT_POSSIBLE).due("clearText()", text.length());
    }

    /** Behind this beginning only some bytes may come; the text may end here, or it ends too early. */
    private static void next(String text, String allowed, boolean mayEnd) {
        due(text, mayEnd ? NONE : text.length());
        for (char letter = 0; letter < 128; letter++) {
            if (allowed.indexOf(letter) < 0) {
                due(text + letter, text.length());
                new Script().type(text + letter + "1 1").due("faultPosition()", text.length());
            } else {
                long fault = new Script().type(text + letter).answer("faultPosition()");
                boolean behind = fault == NONE || fault == text.length() + 1;
                Due.is("fault of " + text + letter + ", answered " + fault, behind ? 1 : 0, 1);
            }
        }
    }

    // ---- form

    private static void firstPosition() {
        next("", "M", false);
        next("M", FIRST, false);
        next("M-", BEHIND_MINUS, false);
        next("M0", " ", false);
        next("M-1", " " + DIGITS, false);
        next("M1", " " + DIGITS, false);
        next("M10", " " + DIGITS, false);
        next("M-17", " " + DIGITS, false);
        nextOrTooGreat("M100", " ", DIGITS, false);
        nextOrTooGreat("M-200", " ", DIGITS, false);
        nextOrTooGreat("M20", " 0", BEHIND_MINUS, false);
        next("M1 ", FIRST, false);
        next("M1 -", BEHIND_MINUS, false);
        next("M1 0", "LC", true);
        next("M1 2", "LC" + DIGITS, true);
        next("M1 -2", "LC" + DIGITS, true);
        next("M1 19", "LC" + DIGITS, true);
        nextOrTooGreat("M1 20", "LC0", BEHIND_MINUS, true);
        nextOrTooGreat("M1 -200", "LC", DIGITS, true);
    }

    /** As above; with some digits the number becomes too great, which is a fault at its first byte. */
    private static void nextOrTooGreat(String text, String allowed, String tooGreat, boolean mayEnd) {
        int start = Math.max(text.lastIndexOf(' ') + 1, 1);
        due(text, mayEnd ? NONE : text.length());
        for (char letter = 0; letter < 128; letter++) {
            if (tooGreat.indexOf(letter) >= 0) {
                due(text + letter, start);
            } else if (allowed.indexOf(letter) < 0) {
                due(text + letter, text.length());
            } else {
                due(text + letter, mayEnd && letter == '0' ? NONE : text.length() + 1);
            }
        }
    }

    private static void lines() {
        next("M1 0L", FIRST, false);
        next("M1 0L-", BEHIND_MINUS, false);
        next("M1 0L0", " ", false);
        next("M1 0L2", " " + DIGITS, false);
        next("M1 0L2 ", FIRST, false);
        next("M1 0L2 -", BEHIND_MINUS, false);
        next("M1 0L2 0", "LCZ", true);
        next("M1 0L2 3", "LCZ" + DIGITS, true);
        next("M1 0L2 0L", FIRST, false);
        next("M1 0L2 0L1 0", "LCZ", true);
    }

    private static void curves() {
        String text = "M1 0C";
        for (int number = 0; number < 6; number++) {
            next(text, FIRST, false);
            next(text + "-", BEHIND_MINUS, false);
            if (number < 5) {
                next(text + "0", " ", false);
                next(text + "7", " " + DIGITS, false);
                next(text + "-7", " " + DIGITS, false);
            } else {
                next(text + "0", "LCZ", true);
                next(text + "7", "LCZ" + DIGITS, true);
                next(text + "-7", "LCZ" + DIGITS, true);
            }
            text += number + 1 + " ";
        }
        next("M1 0C1 2 3 4 5 0C", FIRST, false);
        next("M1 0C1 2 3 4 5 0L", FIRST, false);
    }

    private static void ends() {
        next("M1 0L2 0Z", "", true);
        next("M1 0C1 2 3 4 5 6Z", "", true);
        next("M0 0L0 0L0 0Z", "", true);
        due("M1 0L2 0ZM1 0", 8 + 1);
        due("m1 0", 0);
        due("M1 0l2 0", 4);
        due("M1 0c2 0", 4);
        due("M1 0L2 0z", 8);
        due("M1 0M2 0", 4);
        due("M1 0 ", 4);
        due("M1 0 L2 0", 4);
        due("M1 0L 2 0", 5);
        due("M1  0", 3);
        due(" M1 0", 0);
        due("M 1 0", 1);
        due("M1,0", 2);
        due("M1\t0", 2);
        due("M1 0\n", 4);
        due("L1 0", 0);
        due("Z", 0);
    }

    // ---- numbers

    private static void numbersOfEveryPlace() {
        String[] places = {"M# 0", "M0 #", "M0 0L# 0", "M0 0L0 #", "M0 0L0 0C# 0 0 0 0 0", "M0 0L0 0C0 # 0 0 0 0",
            "M0 0L0 0C0 0 # 0 0 0", "M0 0L0 0C0 0 0 # 0 0", "M0 0L0 0C0 0 0 0 # 0", "M0 0L0 0C0 0 0 0 0 #"};
        for (String place : places) {
            int start = place.indexOf('#');
            for (String good : new String[] {"0", "1", "-1", "9", "10", "99", "100", "199", "200", "-199", "-200"}) {
                due(place.replace("#", good), NONE);
            }
            for (String great : new String[] {"201", "-201", "210", "300", "999", "1000", "2000", "-2000", "65536",
                "4294967296", "4294967297", "-4294967295", "2147483648", "18446744073709551616", "20000000000000"}) {
                due(place.replace("#", great), start);
                due(place.substring(0, start) + great, start);
                due(place.substring(0, start) + great + "x", start);
                due(place.substring(0, start) + great + "-", start);
            }
            for (String zero : new String[] {"00", "01", "0200", "0201"}) {
                due(place.replace("#", zero), start + 1);
            }
            for (String minus : new String[] {"-0", "--1", "- 1", "-", "-01", "-0201", "-x"}) {
                due(place.replace("#", minus), start + 1);
            }
            for (String other : new String[] {"+1", "", "x", ".5", " 1", "Z", "L"}) {
                due(place.replace("#", other), start);
            }
            due(place.replace("#", "1-"), start + 1);
            due(place.replace("#", "1.5"), start + 1);
            due(place.replace("#", "200-"), start + 3);
        }
    }

    private static void greatNumbers() {
        due("M200 200", NONE);
        due("M201 200", 1);
        due("M200 201", 5);
        due("M-200 -200", NONE);
        due("M-201 -200", 1);
        due("M-200 -201", 6);
        due("M201", 1);
        due("M-201", 1);
        due("M20", 3);
        due("M200", 4);
        due("M-200", 5);
        due("M200 20L200 200L20 2010", 19);
        due("M1 1L" + "9".repeat(115), 5);
        due("M1 1L-" + "1".repeat(114), 5);
        due("M" + "0".repeat(119), 2);
        due("M-" + "1".repeat(118), 1);
    }

    private static void outHandles() {
        due("M100 0C-100 0 0 0 0 0", NONE);
        due("M100 0C-101 0 0 0 0 0", 7);
        due("M-100 0C100 0 0 0 0 0", NONE);
        due("M-100 0C101 0 0 0 0 0", 8);
        due("M0 100C0 -100 0 0 0 0", NONE);
        due("M0 100C0 -101 0 0 0 0", 9);
        due("M0 -100C0 100 0 0 0 0", NONE);
        due("M0 -100C0 101 0 0 0 0", 10);
        due("M1 1C200 -199 0 0 0 0", NONE);
        due("M1 1C200 -200 0 0 0 0", 9);
        due("M-1 -1C199 200 0 0 0 0", 11);
        due("M200 200C0 0 0 0 0 0", NONE);
        due("M200 200C-1 0 0 0 0 0", 9);
        due("M200 200C0 -1 0 0 0 0", 11);
        due("M0 0L200 200C0 0 0 0 0 0", NONE);
        due("M0 0L200 200C-1 0 0 0 0 0", 13);
        due("M0 0C0 0 0 0 200 200C0 -1 0 0 0 0", 23);
        due("M200 200L0 0C-200 -200 0 0 0 0", NONE);
        due("M200 200L0 -200L-200 200", NONE);
        due("M100 0C-101", 7);
        due("M100 0C-101x", 7);
        due("M100 0C-10", 10);
        due("M100 0C-201 0 0 0 0 0", 7);
    }

    private static void inHandles() {
        due("M0 0C0 0 100 0 -100 0", NONE);
        due("M0 0C0 0 100 0 -101 0", 15);
        due("M0 0C0 0 -100 0 100 0", NONE);
        due("M0 0C0 0 -100 0 101 0", 16);
        due("M0 0C0 0 0 100 0 -100", NONE);
        due("M0 0C0 0 0 100 0 -101", 17);
        due("M0 0C0 0 0 -100 0 100", NONE);
        due("M0 0C0 0 0 -100 0 101", 18);
        due("M0 0C0 0 200 200 0 0", NONE);
        due("M0 0C0 0 200 200 -1 0", 17);
        due("M0 0C0 0 200 200 0 -1", 19);
        due("M0 0C0 0 200 200 0 -1x", 19);
        due("M0 0C0 0 200 200 200 -", 22);
        due("M0 0C0 0 -200 0 1", 16);
        due("M0 0C0 0 -200 0 1 201", 16);
        due("M0 0C0 0 0 -200 0 1", 18);
        due("M0 0C0 0 0 -200 0 0", NONE);
        due("M0 0L200 200C200 200 0 0 0 0", NONE);
    }

    /** The number is taken to its last digit, and is too great wherever it ends. */
    private static void handlesOfLongNumbers() {
        due("M-190 0C1", 9);
        due("M-190 0C10 0 0 0 0 0", NONE);
        due("M-190 0C11 0 0 0 0 0", 8);
        due("M-190 0C100", 8);
        due("M-190 0C11", 8);
        due("M-190 0C1 0 0 0 0 0", NONE);
        due("M0 0C0 0 -150 0 5", 17);
        due("M0 0C0 0 -150 0 50", 18);
        due("M0 0C0 0 -150 0 51", 16);
        due("M0 0C0 0 -150 0 500", 16);
    }

    // ---- nodes, Z

    private static void thirteenthNode() {
        String twelve = "M0 0" + "L0 0".repeat(11);
        due(twelve, NONE);
        due(twelve + "Z", NONE);
        next(twelve, "Z", true);
        due(twelve + "L0 0", 48);
        due(twelve + "L", 48);
        due(twelve + "C0 0 0 0 0 0", 48);
        due(twelve + "L0 0Z", 48);
        due(twelve + "ZL0 0", 49);
        String eleven = "M0 0" + "L0 0".repeat(10);
        next(eleven, "LCZ", true);
        due(eleven + "C0 0 0 0 0 0", NONE);
        due(eleven + "C0 0 0 0 0 0Z", NONE);
        due(eleven + "C0 0 0 0 0 0L0 0", 56);
        String curves = "M0 0" + "C0 0 0 0 0 0".repeat(9);
        due(curves, NONE);
        due(curves + "L0 0", NONE);
        due(curves + "L0 0Z", NONE);
    }

    private static void closing() {
        due("M0 0Z", 4);
        due("M0 0", NONE);
        due("M0 0L0 0Z", NONE);
        due("M0 0L1 1ZZ", 9);
        due("M0 0ZL1 1", 4);
        new Script().type("M0 0L6 0L6 6Z").due("read()", 0).due("isClosed(0)", 1).due("nodes(0)", 3)
            .due("area(0)", 18L * 60 * Script.U * Script.U).due("corners(0)", 3);
        new Script().type("M0 0L6 0L6 6").due("read()", 0).due("isClosed(0)", 0).due("nodes(0)", 3)
            .due("area(0)", NOT_POSSIBLE).due("corners(0)", 1);
        new Script().type("M0 0L6 0L0 0Z").due("read()", 0).due("nodes(0)", 3).due("find(0, 0)", 0);
    }

    private static void firstOfManyFaults() {
        due("M201 201", 1);
        due("M0 201Z", 3);
        due("M0 0L201 -0", 5);
        due("M0 0C201 0 0 0", 5);
        due("M100 0C-150 201 0 0 0 0", 7);
        due("M00 201", 2);
        due("M0 0Z201", 4);
        due("M-0-0-0", 2);
        due("N201 0", 0);
    }

    private static void textsThatChange() {
        new Script().due("faultPosition()", 0).type("M1 1").due("faultPosition()", NONE).type("L2 2")
            .due("faultPosition()", NONE).type("Z").due("faultPosition()", NONE).due("read()", 0).type("Z")
            .due("faultPosition()", 9).due("read()", NOT_POSSIBLE).due("clearText()", 10).due("faultPosition()", 0)
            .due("read()", NOT_POSSIBLE).type("M3 4").due("faultPosition()", NONE).due("read()", 1)
            .due("isClosed(1)", 0).due("nodes(1)", 1).due("isClosed(0)", 1).due("nodes(0)", 2).due("clearText()", 4)
            .type("M1 1C2 2 3 3 4 4").due("read()", 2).due("clearText()", 16).type("M1 1L4 4").due("read()", 3)
            .dueNode(3, 0, Script.U, Script.U, 0, 0, 0, 0, NONE, NONE)
            .dueNode(3, 1, 4 * Script.U, 4 * Script.U, 0, 0, 0, 0, NONE, NONE);
    }
}
