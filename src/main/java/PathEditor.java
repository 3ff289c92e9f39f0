/** An editor for vector paths of cubic curves, in exact whole parts of a unit; README.md tells how to use it. */
public final class PathEditor {
    public static final int BAD_INDEX = -100000001;
    public static final int BAD_VALUE = -100000002;
    public static final int NOT_POSSIBLE = -100000003;
    public static final int FULL = -100000004;
    public static final int INEXACT = -100000005;
    public static final int OUT_OF_RANGE = -100000006;
    public static final int NONE = -100000007;
    public static final int U = 46656;

    private static final int MAX_PATHS = 6;
    private static final int MAX_NODES = 12;
    private static final int MAX_UNITS = 200;
    private static final int MAX_RATIO = 999;
    private static final int MAX_FACTOR = 9;
    private static final int MAX_DIVISOR = 6;
    private static final int MAX_STATES = 10;
    private static final int SLOTS = 2;
    private static final int TEXT_ROOM = 120;
    // The longest print: M and a position, 11 times C and three positions of up to 9 bytes, and Z.
    private static final int PRINT_ROOM = 341;
    private static final int NO_ERROR = 0;

    // The numbers of a node, in the order in which coordinate() counts them; a corner has the ratio 0 : 0.
    private static final int POSITION = 0;
    private static final int IN = 2;
    private static final int OUT = 4;
    private static final int P = 6;
    private static final int Q = 7;
    private static final int FIELDS = 8;
    private static final int COORDINATES = 6;
    private static final int AXES = 2;

    // 60 times the integral of (Bernstein polynomial i of degree 3) * 3 * (j of degree 2), at 3 * i + j.
    private static final int[] AREA_WEIGHTS = {30, 12, 3, 18, 18, 9, 9, 18, 18, 3, 12, 30};

    private final History history = new History();
    private final Picture[] slots = new Picture[SLOTS];
    private final boolean[] saved = new boolean[SLOTS];
    private final Limits limits = new Limits();
    private final Cut cut = new Cut();
    private final Text text = new Text();
    private final Sheet sheet = new Sheet();

    public PathEditor() {
        for (int i = 0; i < SLOTS; i++) {
            slots[i] = new Picture();
        }
    }

    // ---- paths

    public int addPath(int x, int y) {
        if (!isLength(x) || !isLength(y)) {
            return BAD_VALUE;
        }
        Path added = startChange().newPath();
        if (added == null) {
            return FULL;
        }
        added.addCorner(x * U, y * U);
        return endChange(history.now().count);
    }

    public int extend(int path, int x, int y) {
        Path longer = startChange().pathAt(path);
        if (longer == null) {
            return BAD_INDEX;
        }
        if (!isLength(x) || !isLength(y)) {
            return BAD_VALUE;
        }
        if (longer.closed) {
            return NOT_POSSIBLE;
        }
        if (longer.size >= MAX_NODES) {
            return FULL;
        }
        longer.addCorner(x * U, y * U);
        return endChange(longer.size);
    }

    public int removePath(int path) {
        Picture draft = startChange();
        if (draft.pathAt(path) == null) {
            return BAD_INDEX;
        }
        draft.dropPath(path);
        return endChange(draft.count);
    }

    // ---- nodes

    public int moveNode(int path, int node, int dx, int dy) {
        Path changed = startChange().pathAt(path);
        if (changed == null || !changed.hasNode(node)) {
            return BAD_INDEX;
        }
        if (!isLength(dx) || !isLength(dy)) {
            return BAD_VALUE;
        }
        changed.moveBy(node, dx * U, dy * U, limits);
        return endChange(changed.get(node, POSITION));
    }

    public int setHandle(int path, int node, boolean out, int dx, int dy) {
        Path changed = startChange().pathAt(path);
        if (changed == null || !changed.hasNode(node)) {
            return BAD_INDEX;
        }
        if (!isLength(dx) || !isLength(dy)) {
            return BAD_VALUE;
        }
        int handle = out ? OUT : IN;
        changed.put(node, handle, dx * U);
        changed.put(node, handle + 1, dy * U);
        boolean both = changed.isSmooth(node);
        if (both) {
            changed.fitHandle(node, !out, limits);
        }
        return endChange(both ? 1 : 0);
    }

    public int setSmooth(int path, int node, int p, int q) {
        Path changed = startChange().pathAt(path);
        if (changed == null || !changed.hasNode(node)) {
            return BAD_INDEX;
        }
        if (!isBetween(p, 1, MAX_RATIO) || !isBetween(q, 1, MAX_RATIO)) {
            return BAD_VALUE;
        }
        boolean before = changed.isSmooth(node);
        changed.putRatio(node, p, q);
        changed.fitHandle(node, changed.isZero(node, OUT), limits);
        return endChange(before ? 1 : 0);
    }

    public int setCorner(int path, int node) {
        Path changed = startChange().pathAt(path);
        if (changed == null || !changed.hasNode(node)) {
            return BAD_INDEX;
        }
        boolean before = changed.isSmooth(node);
        changed.makeCorner(node);
        return endChange(before ? 1 : 0);
    }

    public int insert(int path, int segment, int a, int b) {
        Path changed = startChange().pathAt(path);
        if (changed == null || !changed.hasSegment(segment)) {
            return BAD_INDEX;
        }
        if (!isBetween(b, 2, MAX_DIVISOR) || !isBetween(a, 1, b - 1)) {
            return BAD_VALUE;
        }
        if (changed.size >= MAX_NODES) {
            return FULL;
        }
        changed.cutSegment(segment, a, b, cut, limits);
        return endChange(segment + 1);
    }

    public int removeNode(int path, int node) {
        Picture draft = startChange();
        Path changed = draft.pathAt(path);
        if (changed == null || !changed.hasNode(node)) {
            return BAD_INDEX;
        }
        changed.dropNode(node);
        int left = changed.size;
        if (left < 2) {
            changed.closed = false;
        }
        if (left == 0) {
            draft.dropPath(path);
        }
        return endChange(left);
    }

    // ---- whole paths

    public int split(int path, int node) {
        Picture draft = startChange();
        Path changed = draft.pathAt(path);
        if (changed == null || !changed.hasNode(node)) {
            return BAD_INDEX;
        }
        if (!changed.hasSegmentsAround(node)) {
            return NOT_POSSIBLE;
        }
        if (changed.closed) {
            if (changed.size >= MAX_NODES) {
                return FULL;
            }
            changed.openAt(node);
        } else {
            Path rest = draft.newPath();
            if (rest == null) {
                return FULL;
            }
            changed.moveTail(node, rest);
        }
        return endChange(draft.count);
    }

    public int join(int path, int other) {
        Picture draft = startChange();
        Path first = draft.pathAt(path);
        Path second = draft.pathAt(other);
        if (first == null || second == null) {
            return BAD_INDEX;
        }
        boolean same = path == other;
        boolean meet = first.endsWhereStarts(second);
        int size = (same ? first.size : first.size + second.size) - (meet ? 1 : 0);
        if (first.closed || second.closed || (same && size < 2)) {
            return NOT_POSSIBLE;
        }
        if (size > MAX_NODES) {
            return FULL;
        }
        if (meet) {
            second.mergeStart(first);
        }
        if (same) {
            first.closed = true;
        } else {
            first.addNodesOf(second);
            draft.dropPath(other);
        }
        return endChange(size);
    }

    public int reverse(int path) {
        Path changed = startChange().pathAt(path);
        if (changed == null) {
            return BAD_INDEX;
        }
        changed.turnRound();
        return endChange(changed.size);
    }

    public int transform(int path, int a, int b, int c, int d, int q) {
        Path changed = startChange().pathAt(path);
        if (changed == null) {
            return BAD_INDEX;
        }
        if (!isFactor(a) || !isFactor(b) || !isFactor(c) || !isFactor(d) || !isBetween(q, 1, MAX_DIVISOR)) {
            return BAD_VALUE;
        }
        for (int node = 0; node < changed.size; node++) {
            changed.mapNode(node, a, b, c, d, q, limits);
        }
        return endChange(changed.size);
    }

    public int shift(int path, int dx, int dy) {
        Path changed = startChange().pathAt(path);
        if (changed == null) {
            return BAD_INDEX;
        }
        if (!isLength(dx) || !isLength(dy)) {
            return BAD_VALUE;
        }
        for (int node = 0; node < changed.size; node++) {
            changed.moveBy(node, dx * U, dy * U, limits);
        }
        return endChange(changed.size);
    }

    // ---- history

    public int undo() {
        if (history.past == 0) {
            return NOT_POSSIBLE;
        }
        history.stepBack();
        return history.past;
    }

    public int redo() {
        if (history.future == 0) {
            return NOT_POSSIBLE;
        }
        history.stepForward();
        return history.future;
    }

    // ---- what there is

    public int paths() {
        return history.now().count;
    }

    public int nodes(int path) {
        Path shown = history.now().pathAt(path);
        return shown == null ? BAD_INDEX : shown.size;
    }

    public int isClosed(int path) {
        Path shown = history.now().pathAt(path);
        if (shown == null) {
            return BAD_INDEX;
        }
        return shown.closed ? 1 : 0;
    }

    public int coordinate(int path, int node, int what) {
        Path shown = history.now().pathAt(path);
        if (shown == null || !shown.hasNode(node)) {
            return BAD_INDEX;
        }
        return isBetween(what, 0, COORDINATES - 1) ? shown.get(node, what) : BAD_VALUE;
    }

    public int ratio(int path, int node, boolean second) {
        Path shown = history.now().pathAt(path);
        if (shown == null || !shown.hasNode(node)) {
            return BAD_INDEX;
        }
        return shown.ratioNumber(node, second ? Q : P);
    }

    public int point(int path, int segment, int a, int b, boolean vertical) {
        Path shown = history.now().pathAt(path);
        if (shown == null || !shown.hasSegment(segment)) {
            return BAD_INDEX;
        }
        if (!isBetween(b, 1, MAX_DIVISOR) || !isBetween(a, 0, b)) {
            return BAD_VALUE;
        }
        cut.make(shown, segment, shown.endOf(segment), vertical ? 1 : 0, a, b);
        long cube = (long) b * b * b;
        return cut.s % cube == 0 ? (int) (cut.s / cube) : INEXACT;
    }

    public long area(int path) {
        Path shown = history.now().pathAt(path);
        if (shown == null) {
            return BAD_INDEX;
        }
        return shown.closed ? shown.sixtyAreas() : NOT_POSSIBLE;
    }

    public int box(int path, int side) {
        Path shown = history.now().pathAt(path);
        if (shown == null) {
            return BAD_INDEX;
        }
        if (!isBetween(side, 0, 3)) {
            return BAD_VALUE;
        }
        return shown.extreme(side / 2, side % 2 == 1);
    }

    public int find(int x, int y) {
        if (!isLength(x) || !isLength(y)) {
            return BAD_VALUE;
        }
        Picture now = history.now();
        for (int k = 0; k < now.count; k++) {
            int node = now.list[k].nodeAt(x * U, y * U);
            if (node != NONE) {
                return 100 * k + node;
            }
        }
        return NONE;
    }

    public int corners(int path) {
        Path shown = history.now().pathAt(path);
        if (shown == null) {
            return BAD_INDEX;
        }
        int sum = 0;
        for (int node = 0; node < shown.size; node++) {
            if (!shown.isSmooth(node) && shown.hasSegmentsAround(node)) {
                sum++;
            }
        }
        return sum;
    }

    // ---- text

    public int append(int letter) {
        if (!isBetween(letter, 0, 127)) {
            return BAD_VALUE;
        }
        if (text.length >= TEXT_ROOM) {
            return FULL;
        }
        text.addByte(letter);
        return text.length;
    }

    public int clearText() {
        int before = text.length;
        text.length = 0;
        return before;
    }

    public int faultPosition() {
        text.parse();
        return text.fault;
    }

    public int read() {
        text.parse();
        if (text.fault != NONE) {
            return NOT_POSSIBLE;
        }
        Path added = startChange().newPath();
        if (added == null) {
            return FULL;
        }
        added.copyFrom(text.found);
        return endChange(history.now().count);
    }

    public int print(int path) {
        Path shown = history.now().pathAt(path);
        if (shown == null) {
            return BAD_INDEX;
        }
        if (!Sheet.canShow(shown)) {
            return NOT_POSSIBLE;
        }
        sheet.show(shown);
        return sheet.length;
    }

    public int printed(int index) {
        return index < 0 || index >= sheet.length ? BAD_INDEX : sheet.row[index];
    }

    // ---- slots, checksum

    public int save(int slot) {
        if (slot < 0 || slot >= SLOTS) {
            return BAD_INDEX;
        }
        slots[slot].copyFrom(history.now());
        saved[slot] = true;
        return slots[slot].count;
    }

    public int restore(int slot) {
        if (slot < 0 || slot >= SLOTS) {
            return BAD_INDEX;
        }
        if (!saved[slot]) {
            return NOT_POSSIBLE;
        }
        history.startAnew(slots[slot]);
        return history.now().count;
    }

    public long checksum() {
        Picture now = history.now();
        long h = 31L * 59 + now.count;
        for (int k = 0; k < now.count; k++) {
            h = now.list[k].hashOnto(h);
        }
        return h;
    }

    // ---- changes

    /** All changes are made in a draft, so that a call that reports an error leaves nothing behind. */
    private Picture startChange() {
        limits.start();
        return history.draftOfNow();
    }

    private int endChange(int answer) {
        int error = limits.error();
        if (error != NO_ERROR) {
            return error;
        }
        history.takeDraft();
        return answer;
    }

    private static boolean isBetween(int value, int least, int most) {
        return least <= value && value <= most;
    }

    private static boolean isLength(int units) {
        return isBetween(units, -MAX_UNITS, MAX_UNITS);
    }

    private static boolean isFactor(int value) {
        return isBetween(value, -MAX_FACTOR, MAX_FACTOR);
    }

    /** Notes faults over a whole call, as one coordinate that is not whole goes before any that are too great. */
    private static final class Limits {
        private boolean inexact;
        private boolean tooGreat;

        private void start() {
            inexact = false;
            tooGreat = false;
        }

        private int quotient(long dividend, long divisor) {
            if (divisor == 0 || dividend % divisor != 0) {
                inexact = true;
                return 0;
            }
            long value = dividend / divisor;
            if (Math.abs(value) > (long) MAX_UNITS * U) {
                tooGreat = true;
                return 0;
            }
            return (int) value;
        }

        private int error() {
            if (inexact) {
                return INEXACT;
            }
            return tooGreat ? OUT_OF_RANGE : NO_ERROR;
        }
    }

    /** The points R0, R1 and S of a splitting for one axis, times b * b and b * b * b, so that they stay whole. */
    private static final class Cut {
        private long r0;
        private long r1;
        private long s;

        private void make(Path path, int start, int end, int axis, int a, int b) {
            long p0 = path.get(start, POSITION + axis);
            long p1 = p0 + path.get(start, OUT + axis);
            long p3 = path.get(end, POSITION + axis);
            long p2 = p3 + path.get(end, IN + axis);
            long rest = b - a;
            long q0 = p0 * rest + p1 * a;
            long q1 = p1 * rest + p2 * a;
            long q2 = p2 * rest + p3 * a;
            r0 = q0 * rest + q1 * a;
            r1 = q1 * rest + q2 * a;
            s = r0 * rest + r1 * a;
        }
    }

    /** A row of nodes. Segment k ends at node k + 1, or at node 0 if it is the last one of a closed path. */
    private static final class Path {
        private final int[] row = new int[MAX_NODES * FIELDS];
        private int size;
        private boolean closed;

        private void copyFrom(Path other) {
            System.arraycopy(other.row, 0, row, 0, MAX_NODES * FIELDS);
            size = other.size;
            closed = other.closed;
        }

        private void makeEmpty() {
            size = 0;
            closed = false;
        }

        private boolean hasNode(int node) {
            return 0 <= node && node < size;
        }

        private boolean hasSegment(int segment) {
            return 0 <= segment && segment < segmentCount();
        }

        private int segmentCount() {
            return closed ? size : size - 1;
        }

        private boolean hasSegmentsAround(int node) {
            return closed || (node > 0 && node < size - 1);
        }

        private int endOf(int segment) {
            return segment + 1 < size ? segment + 1 : 0;
        }

        private int get(int node, int field) {
            if (node < 0 || node >= MAX_NODES || field < 0 || field >= FIELDS) {
                return 0;
            }
            return row[node * FIELDS + field];
        }

        private void put(int node, int field, int value) {
            if (node >= 0 && node < MAX_NODES && field >= 0 && field < FIELDS) {
                row[node * FIELDS + field] = value;
            }
        }

        private boolean isZero(int node, int handle) {
            return get(node, handle) == 0 && get(node, handle + 1) == 0;
        }

        private boolean isSmooth(int node) {
            return get(node, P) != 0;
        }

        private int ratioNumber(int node, int field) {
            return isSmooth(node) ? get(node, field) : NONE;
        }

        private void makeCorner(int node) {
            put(node, P, 0);
            put(node, Q, 0);
        }

        private void putRatio(int node, int p, int q) {
            int divisor = greatestDivisor(p, q);
            if (divisor == 0 || p / divisor > MAX_RATIO || q / divisor > MAX_RATIO) {
                makeCorner(node);
                return;
            }
            put(node, P, p / divisor);
            put(node, Q, q / divisor);
        }

        private static int greatestDivisor(int p, int q) {
            int divisor = p;
            int rest = q;
            for (int steps = 0; steps < 100 && rest != 0; steps++) {
                int next = divisor % rest;
                divisor = rest;
                rest = next;
            }
            return divisor;
        }

        /** One handle of a smooth node becomes what the ratio tells of the other one. */
        private void fitHandle(int node, boolean out, Limits limits) {
            int to = out ? OUT : IN;
            int from = out ? IN : OUT;
            long p = get(node, out ? Q : P);
            long q = get(node, out ? P : Q);
            for (int axis = 0; axis < AXES; axis++) {
                put(node, to + axis, limits.quotient(-p * get(node, from + axis), q));
            }
        }

        private boolean handlesFit(int node) {
            long p = get(node, P);
            long q = get(node, Q);
            return get(node, IN) * q == -p * get(node, OUT) && get(node, IN + 1) * q == -p * get(node, OUT + 1);
        }

        private void moveBy(int node, int dx, int dy, Limits limits) {
            put(node, POSITION, limits.quotient(get(node, POSITION) + dx, 1));
            put(node, POSITION + 1, limits.quotient(get(node, POSITION + 1) + dy, 1));
        }

        private void addCorner(int x, int y) {
            if (size >= MAX_NODES) {
                return;
            }
            for (int field = 0; field < FIELDS; field++) {
                put(size, field, 0);
            }
            put(size, POSITION, x);
            put(size, POSITION + 1, y);
            size++;
        }

        private void copyNode(int node, Path from, int other) {
            for (int field = 0; field < FIELDS; field++) {
                put(node, field, from.get(other, field));
            }
        }

        private void addCopy(Path from, int other) {
            if (size < MAX_NODES) {
                copyNode(size, from, other);
                size++;
            }
        }

        private void addNodesOf(Path other) {
            for (int node = 0; node < other.size; node++) {
                addCopy(other, node);
            }
        }

        private void dropNode(int node) {
            for (int k = node; k < size - 1; k++) {
                copyNode(k, this, k + 1);
            }
            size--;
        }

        private void doubleNode(int node) {
            if (size >= MAX_NODES) {
                return;
            }
            for (int k = size; k > node; k--) {
                copyNode(k, this, k - 1);
            }
            size++;
        }

        private void cutSegment(int segment, int a, int b, Cut cut, Limits limits) {
            int fresh = segment + 1;
            int end = endOf(segment) == 0 ? 0 : segment + 2;
            long cube = (long) b * b * b;
            doubleNode(segment);
            for (int axis = 0; axis < AXES; axis++) {
                cut.make(this, segment, end, axis, a, b);
                put(fresh, POSITION + axis, limits.quotient(cut.s, cube));
                put(fresh, IN + axis, limits.quotient(cut.r0 * b - cut.s, cube));
                put(fresh, OUT + axis, limits.quotient(cut.r1 * b - cut.s, cube));
                scaleHandle(segment, OUT + axis, a, b, limits);
                scaleHandle(end, IN + axis, b - a, b, limits);
            }
            putRatio(fresh, a, b - a);
            scaleRatio(segment, b, a);
            scaleRatio(end, b - a, b);
        }

        private void scaleHandle(int node, int field, int a, int b, Limits limits) {
            put(node, field, limits.quotient((long) get(node, field) * a, b));
        }

        private void scaleRatio(int node, int byP, int byQ) {
            if (isSmooth(node)) {
                putRatio(node, get(node, P) * byP, get(node, Q) * byQ);
            }
        }

        /** Needs room for one more node. */
        private void openAt(int node) {
            for (int k = 0; k < node; k++) {
                addCopy(this, 0);
                dropNode(0);
            }
            addCopy(this, 0);
            closed = false;
        }

        private void moveTail(int node, Path rest) {
            for (int k = node; k < size; k++) {
                rest.addCopy(this, k);
            }
            size = node + 1;
        }

        private boolean endsWhereStarts(Path other) {
            return get(size - 1, POSITION) == other.get(0, POSITION)
                && get(size - 1, POSITION + 1) == other.get(0, POSITION + 1);
        }

        /** The first node takes in the last one of a path (this one, perhaps), which loses it. */
        private void mergeStart(Path former) {
            int last = former.size - 1;
            put(0, IN, former.get(last, IN));
            put(0, IN + 1, former.get(last, IN + 1));
            boolean sameRatio = get(0, P) == former.get(last, P) && get(0, Q) == former.get(last, Q);
            if (!sameRatio || !handlesFit(0)) {
                makeCorner(0);
            }
            former.dropNode(last);
        }

        private void turnRound() {
            for (int low = 0; low < size - 1 - low; low++) {
                for (int field = 0; field < FIELDS; field++) {
                    exchange(low, field, size - 1 - low, field);
                }
            }
            for (int node = 0; node < size; node++) {
                exchange(node, IN, node, OUT);
                exchange(node, IN + 1, node, OUT + 1);
                exchange(node, P, node, Q);
            }
        }

        private void exchange(int node, int field, int other, int otherField) {
            int kept = get(node, field);
            put(node, field, get(other, otherField));
            put(other, otherField, kept);
        }

        private void mapNode(int node, long a, long b, long c, long d, int q, Limits limits) {
            for (int field = 0; field < COORDINATES; field += AXES) {
                int x = get(node, field);
                int y = get(node, field + 1);
                put(node, field, limits.quotient(a * x + b * y, q));
                put(node, field + 1, limits.quotient(c * x + d * y, q));
            }
        }

        private int control(int segment, int which, int axis) {
            switch (which) {
                case 0:
                    return get(segment, POSITION + axis);
                case 1:
                    return get(segment, POSITION + axis) + get(segment, OUT + axis);
                case 2:
                    return get(endOf(segment), POSITION + axis) + get(endOf(segment), IN + axis);
                default:
                    return get(endOf(segment), POSITION + axis);
            }
        }

        private boolean isStraight(int segment) {
            return isZero(segment, OUT) && isZero(endOf(segment), IN);
        }

        private long sixtyAreas() {
            long sum = 0;
            for (int segment = 0; segment < segmentCount(); segment++) {
                for (int k = 0; k < AREA_WEIGHTS.length; k++) {
                    int j = k % 3;
                    long dy = control(segment, j + 1, 1) - control(segment, j, 1);
                    sum += AREA_WEIGHTS[k] * dy * control(segment, k / 3, 0);
                }
            }
            return sum;
        }

        private int extreme(int axis, boolean greatest) {
            int best = get(0, POSITION + axis);
            for (int segment = 0; segment < segmentCount(); segment++) {
                for (int which = 0; which < 4; which++) {
                    int value = control(segment, which, axis);
                    best = greatest ? Math.max(best, value) : Math.min(best, value);
                }
            }
            return best;
        }

        private int nodeAt(int x, int y) {
            for (int node = 0; node < size; node++) {
                if (get(node, POSITION) == x && get(node, POSITION + 1) == y) {
                    return node;
                }
            }
            return NONE;
        }

        private long hashOnto(long start) {
            long h = (start * 31 + size) * 31 + (closed ? 1 : 0);
            for (int node = 0; node < size; node++) {
                for (int field = 0; field < COORDINATES; field++) {
                    h = 31 * h + get(node, field);
                }
                h = 31 * h + ratioNumber(node, P);
                h = 31 * h + ratioNumber(node, Q);
            }
            return closed ? 31 * h + sixtyAreas() : h;
        }
    }

    /** All paths at one time. */
    private static final class Picture {
        private final Path[] list = new Path[MAX_PATHS];
        private int count;

        private Picture() {
            for (int k = 0; k < MAX_PATHS; k++) {
                list[k] = new Path();
            }
        }

        private void copyFrom(Picture other) {
            for (int k = 0; k < other.count; k++) {
                list[k].copyFrom(other.list[k]);
            }
            count = other.count;
        }

        private Path pathAt(int index) {
            return index < 0 || index >= count ? null : list[index];
        }

        /** Answers null if there is no room. */
        private Path newPath() {
            if (count >= MAX_PATHS) {
                return null;
            }
            Path added = list[count];
            added.makeEmpty();
            count++;
            return added;
        }

        private void dropPath(int index) {
            if (index < 0 || index >= count) {
                return;
            }
            Path spare = list[index];
            for (int k = index; k < count - 1; k++) {
                list[k] = list[k + 1];
            }
            count--;
            list[count] = spare;
        }
    }

    /**
     * A ring of pictures: the present one, those before it, which undo() goes back to, and those behind it, which
     * redo() makes again. A change removes the latter, so both together are never more than MAX_STATES.
     */
    private static final class History {
        private static final int ROOM = MAX_STATES + 1;

        private final Picture[] ring = new Picture[ROOM];
        private Picture draft = new Picture();
        private int present;
        private int past;
        private int future;

        private History() {
            for (int k = 0; k < ROOM; k++) {
                ring[k] = new Picture();
            }
        }

        private Picture now() {
            return ring[present];
        }

        private Picture draftOfNow() {
            draft.copyFrom(now());
            return draft;
        }

        private void takeDraft() {
            present = (present + 1) % ROOM;
            Picture spare = ring[present];
            ring[present] = draft;
            draft = spare;
            past = Math.min(past + 1, MAX_STATES);
            future = 0;
        }

        private void stepBack() {
            present = (present + ROOM - 1) % ROOM;
            past--;
            future++;
        }

        private void stepForward() {
            present = (present + 1) % ROOM;
            past++;
            future--;
        }

        private void startAnew(Picture picture) {
            now().copyFrom(picture);
            past = 0;
            future = 0;
        }
    }

    /** The text, and the path that it tells. All that is taken behind the first fault is void. */
    private static final class Text {
        private final byte[] row = new byte[TEXT_ROOM];
        private int length;
        private int at;
        private int fault;
        private final Path found = new Path();
        // The end of what has been taken, in units.
        private int x;
        private int y;

        private void addByte(int letter) {
            if (length < TEXT_ROOM) {
                row[length] = (byte) letter;
                length++;
            }
        }

        private void parse() {
            at = 0;
            fault = NONE;
            found.makeEmpty();
            takeByte('M');
            takeLine();
            for (int k = 0; k < TEXT_ROOM && fault == NONE && at < length; k++) {
                takeSegment();
            }
        }

        private int nextByte() {
            return at >= 0 && at < length && at < TEXT_ROOM ? row[at] : -1;
        }

        private void stopAt(int position) {
            if (fault == NONE) {
                fault = position;
            }
        }

        private void takeByte(int wanted) {
            if (nextByte() == wanted) {
                at++;
            } else {
                stopAt(at);
            }
        }

        private void takeSegment() {
            int letter = nextByte();
            boolean full = found.size >= MAX_NODES;
            if (found.closed) {
                stopAt(at);
            } else if (letter == 'L' && !full) {
                at++;
                takeLine();
            } else if (letter == 'C' && !full) {
                at++;
                takeCurve();
            } else if (letter == 'Z' && found.size >= 2) {
                at++;
                found.closed = true;
            } else {
                stopAt(at);
            }
        }

        private void takeCurve() {
            int from = found.size - 1;
            int outX = takeNumber(x) - x;
            takeByte(' ');
            int outY = takeNumber(y) - y;
            takeByte(' ');
            int nearX = takeNumber(0);
            takeByte(' ');
            int nearY = takeNumber(0);
            takeByte(' ');
            x = takeNumber(nearX);
            takeByte(' ');
            y = takeNumber(nearY);
            found.addCorner(x * U, y * U);
            found.put(from, OUT, outX * U);
            found.put(from, OUT + 1, outY * U);
            found.put(from + 1, IN, (nearX - x) * U);
            found.put(from + 1, IN + 1, (nearY - y) * U);
        }

        private void takeLine() {
            x = takeNumber(0);
            takeByte(' ');
            y = takeNumber(0);
            found.addCorner(x * U, y * U);
        }

        /** A number that may be neither too far from 0 nor from another number. */
        private int takeNumber(int other) {
            int start = at;
            boolean minus = nextByte() == '-';
            if (minus) {
                at++;
            }
            int first = nextByte();
            if (fault != NONE || first < (minus ? '1' : '0') || first > '9') {
                stopAt(at);
                return 0;
            }
            int amount = takeDigits();
            int value = minus ? -amount : amount;
            if (amount > MAX_UNITS || Math.abs(value - other) > MAX_UNITS) {
                stopAt(start);
            }
            return value;
        }

        /** A 0 in front is a number of its own; a great number is told from others by being great. */
        private int takeDigits() {
            int amount = 0;
            for (int k = 0; k < TEXT_ROOM; k++) {
                int letter = nextByte();
                if (letter < '0' || letter > '9' || (k == 1 && amount == 0)) {
                    break;
                }
                amount = Math.min(10 * amount + letter - '0', 10 * MAX_UNITS);
                at++;
            }
            return amount;
        }
    }

    /** What was printed. */
    private static final class Sheet {
        private final byte[] row = new byte[PRINT_ROOM];
        private int length;

        /** Where the nodes are whole units, a control point is whole if its handle is. */
        private static boolean canShow(Path path) {
            for (int node = 0; node < path.size; node++) {
                boolean in = node > 0;
                boolean out = node < path.size - 1;
                if (!isWhole(path, node, POSITION) || (in && !isWhole(path, node, IN))
                    || (out && !isWhole(path, node, OUT))) {
                    return false;
                }
            }
            return !path.closed || path.isStraight(path.size - 1);
        }

        private static boolean isWhole(Path path, int node, int field) {
            return path.get(node, field) % U == 0 && path.get(node, field + 1) % U == 0;
        }

        private void show(Path path) {
            length = 0;
            putByte('M');
            putPoint(path, 0, 0);
            for (int segment = 0; segment < path.size - 1; segment++) {
                if (path.isStraight(segment)) {
                    putByte('L');
                } else {
                    putByte('C');
                    putPoint(path, segment, 1);
                    putByte(' ');
                    putPoint(path, segment, 2);
                    putByte(' ');
                }
                putPoint(path, segment, 3);
            }
            if (path.closed) {
                putByte('Z');
            }
        }

        private void putPoint(Path path, int segment, int which) {
            putNumber(path.control(segment, which, 0) / U);
            putByte(' ');
            putNumber(path.control(segment, which, 1) / U);
        }

        private void putNumber(int units) {
            int amount = Math.abs(units);
            if (units < 0) {
                putByte('-');
            }
            if (amount >= 100) {
                putByte('0' + amount / 100);
            }
            if (amount >= 10) {
                putByte('0' + amount / 10 % 10);
            }
            putByte('0' + amount % 10);
        }

        private void putByte(int value) {
            if (length < PRINT_ROOM) {
                row[length] = (byte) value;
                length++;
            }
        }
    }
}
