import java.util.Random;

/** Long runs of calls, always the same ones, of which every answer is compared with the model's. */
public final class ModelTest {
    private static final int CALLS = 512;
    private static final int[] ODD = {-1, 7, 12, 13, 201, -201, 1000, Integer.MAX_VALUE, Integer.MIN_VALUE,
        Integer.MIN_VALUE + 1, 1 << 28, 100000000};
    private static final int[] COARSE = {0, 0, 6, -6, 12, -12, 36, -36, 72, 108, -108, 198, -198, 200, -200};

    private final Random random;
    private final PathEditor editor = new PathEditor();
    private final Model model = new Model();
    private final String name;
    private int calls = 0;

    private ModelTest(String name, long seed) {
        this.name = name;
        random = new Random(seed);
    }

    public static void main(String[] args) {
        for (int run = 0; run < 400 && !Due.anyWrong(); run++) {
            new ModelTest("mixed run " + run, run).runMixed(run % 4);
        }
        for (int run = 0; run < 3000 && !Due.anyWrong(); run++) {
            new ModelTest("text run " + run, 10000 + run).runText();
        }
        Due.end();
    }

    private void runMixed(int kind) {
        while (calls < CALLS - 20 && !Due.anyWrong()) {
            int choice = random.nextInt(100);
            if (choice < 22 + 10 * kind) {
                build();
            } else if (choice < 75) {
                change();
            } else if (choice < 82) {
                goThroughTime();
            } else {
                ask();
            }
            if (random.nextInt(3) == 0) {
                checksum();
            }
        }
        checksum();
    }

    private void runText() {
        String text = mutated(plainText());
        for (int k = 0; k < text.length() && k < 122; k++) {
            append(text.charAt(k));
        }
        due("faultPosition()", editor.faultPosition(), model.faultPosition());
        due("read()", editor.read(), model.read());
        checksum();
        due("print(0)", editor.print(0), model.print(0));
        for (int k = -1; k <= 122; k++) {
            due("printed(" + k + ")", editor.printed(k), model.printed(k));
        }
        due("area(0)", editor.area(0), model.area(0));
        due("clearText()", editor.clearText(), model.clearText());
        due("read()", editor.read(), model.read());
        if (Due.anyWrong()) {
            System.out.println(name + " has the text " + text);
        }
    }

    // ---- arguments

    private boolean chance(int percent) {
        return random.nextInt(100) < percent;
    }

    private int odd() {
        return ODD[random.nextInt(ODD.length)];
    }

    private int path() {
        return chance(4) ? odd() : random.nextInt(Math.max(1, model.paths() + (chance(5) ? 1 : 0)));
    }

    private int node(int path) {
        int nodes = Math.max(1, model.nodes(path));
        return chance(4) ? odd() : random.nextInt(nodes + (chance(5) ? 1 : 0));
    }

    private int units() {
        if (chance(3)) {
            return odd();
        }
        return chance(60) ? COARSE[random.nextInt(COARSE.length)] : random.nextInt(41) - 20;
    }

    private int handle() {
        return chance(80) ? 6 * (random.nextInt(13) - 6) : units();
    }

    private int small(int least, int most) {
        return chance(4) ? odd() : least + random.nextInt(most - least + 1);
    }

    private int ratioNumber() {
        if (chance(15)) {
            return new int[] {0, 999, 1000, 998, 333, 500, -1, 997}[random.nextInt(8)];
        }
        return 1 + random.nextInt(4);
    }

    // ---- calls

    private void due(String call, long got, long want) {
        calls++;
        Due.is(name + ", call " + calls + ": " + call, got, want);
    }

    private void checksum() {
        due("checksum()", editor.checksum(), model.checksum());
    }

    private void append(int letter) {
        due("append(" + letter + ")", editor.append(letter), model.append(letter));
    }

    private void build() {
        int p = path();
        int x = units();
        int y = units();
        switch (random.nextInt(8)) {
            case 0 -> due("addPath(" + x + ", " + y + ")", editor.addPath(x, y), model.addPath(x, y));
            case 1, 2, 3, 4 -> due("extend(" + p + ", " + x + ", " + y + ")", editor.extend(p, x, y),
                model.extend(p, x, y));
            case 5 -> due("join(" + p + ", " + p + ")", editor.join(p, p), model.join(p, p));
            case 6 -> setHandle(p);
            default -> setSmooth(p);
        }
    }

    private void setHandle(int p) {
        int n = node(p);
        int x = handle();
        int y = handle();
        boolean out = random.nextBoolean();
        due("setHandle(" + p + ", " + n + ", " + out + ", " + x + ", " + y + ")",
            editor.setHandle(p, n, out, x, y), model.setHandle(p, n, out, x, y));
    }

    private void setSmooth(int p) {
        int n = node(p);
        int a = ratioNumber();
        int b = ratioNumber();
        due("setSmooth(" + p + ", " + n + ", " + a + ", " + b + ")", editor.setSmooth(p, n, a, b),
            model.setSmooth(p, n, a, b));
    }

    private void change() {
        int p = path();
        int n = node(p);
        int x = units();
        int y = units();
        switch (random.nextInt(20)) {
            case 0, 1 -> setHandle(p);
            case 2, 3 -> setSmooth(p);
            case 4 -> due("setCorner(" + p + ", " + n + ")", editor.setCorner(p, n), model.setCorner(p, n));
            case 5, 6, 7, 8 -> insert(p, n);
            case 9 -> due("removeNode(" + p + ", " + n + ")", editor.removeNode(p, n), model.removeNode(p, n));
            case 10, 11 -> due("split(" + p + ", " + n + ")", editor.split(p, n), model.split(p, n));
            case 12, 13 -> {
                int o = path();
                due("join(" + p + ", " + o + ")", editor.join(p, o), model.join(p, o));
            }
            case 14 -> due("reverse(" + p + ")", editor.reverse(p), model.reverse(p));
            case 15 -> transform(p);
            case 16 -> due("shift(" + p + ", " + x + ", " + y + ")", editor.shift(p, x, y), model.shift(p, x, y));
            case 17, 18 -> due("moveNode(" + p + ", " + n + ", " + x + ", " + y + ")", editor.moveNode(p, n, x, y),
                model.moveNode(p, n, x, y));
            default -> {
                if (chance(20)) {
                    due("removePath(" + p + ")", editor.removePath(p), model.removePath(p));
                } else {
                    read();
                }
            }
        }
    }

    private void insert(int p, int n) {
        int b = chance(50) ? 2 + random.nextInt(2) : small(2, 6);
        int a = small(1, Math.max(1, Math.min(b, 8) - 1));
        due("insert(" + p + ", " + n + ", " + a + ", " + b + ")", editor.insert(p, n, a, b), model.insert(p, n, a, b));
    }

    private void transform(int p) {
        int a = small(-2, 2);
        int b = small(-2, 2);
        int c = small(-2, 2);
        int d = small(-2, 2);
        int q = chance(60) ? 1 + random.nextInt(3) : small(1, 6);
        due("transform(" + p + ", " + a + ", " + b + ", " + c + ", " + d + ", " + q + ")",
            editor.transform(p, a, b, c, d, q), model.transform(p, a, b, c, d, q));
    }

    private void read() {
        String text = chance(20) ? "M6 6L12 0Z" : "M0 0C6 6 12 6 18 0";
        due("clearText()", editor.clearText(), model.clearText());
        if (calls + text.length() > CALLS - 40) {
            return;
        }
        for (char letter : text.toCharArray()) {
            append(letter);
        }
        due("faultPosition()", editor.faultPosition(), model.faultPosition());
        due("read()", editor.read(), model.read());
    }

    private void goThroughTime() {
        int slot = small(0, 1);
        switch (random.nextInt(12)) {
            case 0 -> due("save(" + slot + ")", editor.save(slot), model.save(slot));
            case 1 -> {
                if (chance(25)) {
                    due("restore(" + slot + ")", editor.restore(slot), model.restore(slot));
                }
            }
            case 2, 3 -> {
                for (int k = random.nextInt(12); k > 0 && calls < CALLS - 60; k--) {
                    due("undo()", editor.undo(), model.undo());
                }
                for (int k = random.nextInt(12); k > 0 && calls < CALLS - 60; k--) {
                    due("redo()", editor.redo(), model.redo());
                }
            }
            case 4, 5, 6, 7 -> due("undo()", editor.undo(), model.undo());
            default -> due("redo()", editor.redo(), model.redo());
        }
    }

    private void ask() {
        int p = path();
        int n = node(p);
        boolean second = random.nextBoolean();
        switch (random.nextInt(14)) {
            case 0 -> due("paths()", editor.paths(), model.paths());
            case 1 -> due("nodes(" + p + ")", editor.nodes(p), model.nodes(p));
            case 2 -> due("isClosed(" + p + ")", editor.isClosed(p), model.isClosed(p));
            case 3 -> {
                int what = small(-1, 6);
                due("coordinate(" + p + ", " + n + ", " + what + ")", editor.coordinate(p, n, what),
                    model.coordinate(p, n, what));
            }
            case 4 -> due("ratio(" + p + ", " + n + ", " + second + ")", editor.ratio(p, n, second),
                model.ratio(p, n, second));
            case 5, 6 -> {
                int b = small(0, 6);
                int a = small(-1, 6);
                due("point(" + p + ", " + n + ", " + a + ", " + b + ", " + second + ")",
                    editor.point(p, n, a, b, second), model.point(p, n, a, b, second));
            }
            case 7 -> due("area(" + p + ")", editor.area(p), model.area(p));
            case 8 -> {
                int side = small(-1, 4);
                due("box(" + p + ", " + side + ")", editor.box(p, side), model.box(p, side));
            }
            case 9 -> find(p, n);
            case 10 -> due("corners(" + p + ")", editor.corners(p), model.corners(p));
            case 11 -> due("print(" + p + ")", editor.print(p), model.print(p));
            case 12 -> {
                int index = chance(10) ? odd() : random.nextInt(60);
                due("printed(" + index + ")", editor.printed(index), model.printed(index));
            }
            default -> {
                int letter = chance(10) ? odd() : random.nextInt(129) - 1;
                append(letter);
                due("faultPosition()", editor.faultPosition(), model.faultPosition());
            }
        }
    }

    private void find(int p, int n) {
        int x = units();
        int y = units();
        if (chance(60) && model.coordinate(p, n, 0) > Model.BAD_INDEX && model.coordinate(p, n, 1) > Model.BAD_INDEX) {
            x = model.coordinate(p, n, 0) / Model.U;
            y = model.coordinate(p, n, 1) / Model.U;
        }
        due("find(" + x + ", " + y + ")", editor.find(x, y), model.find(x, y));
    }

    // ---- texts

    private String number(int most) {
        return String.valueOf(random.nextInt(2 * most + 1) - most);
    }

    private String place(int most) {
        return number(most) + " " + number(most);
    }

    private String plainText() {
        int most = new int[] {3, 9, 60, 110, 201, 250, 30000}[random.nextInt(7)];
        int segments = random.nextInt(chance(30) ? 15 : 4);
        StringBuilder text = new StringBuilder("M" + place(most));
        for (int k = 0; k < segments; k++) {
            text.append(chance(50) ? "L" + place(most)
                : "C" + place(most) + " " + place(most) + " " + place(most));
        }
        return text.append(chance(40) ? "Z" : "").toString();
    }

    private String mutated(String plain) {
        StringBuilder text = new StringBuilder(plain);
        for (int k = chance(50) ? 0 : 1 + random.nextInt(3); k > 0; k--) {
            int at = random.nextInt(text.length() + 1);
            char letter = chance(90) ? "MLCZ 0123456789--".charAt(random.nextInt(17)) : (char) random.nextInt(128);
            switch (random.nextInt(4)) {
                case 0 -> text.insert(at, letter);
                case 1 -> text.setLength(at);
                case 2 -> text.replace(at, Math.min(at + 1, text.length()), "");
                default -> text.replace(at, Math.min(at + 1, text.length()), String.valueOf(letter));
            }
        }
        return text.toString();
    }
}
