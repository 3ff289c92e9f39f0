import java.util.ArrayDeque;
import java.util.ArrayList;
import java.util.Deque;
import java.util.List;
import java.util.regex.Matcher;
import java.util.regex.Pattern;

/** The document again, in the plainest words: states that never change, fractions, and a pattern for the text. */
final class Model {
    static final int U = 46656;
    static final int BAD_INDEX = -100000001;
    static final int BAD_VALUE = -100000002;
    static final int NOT_POSSIBLE = -100000003;
    static final int FULL = -100000004;
    static final int INEXACT = -100000005;
    static final int OUT_OF_RANGE = -100000006;
    static final int NONE = -100000007;

    record V(Frac x, Frac y) {
        static final V ZERO = new V(Frac.ZERO, Frac.ZERO);

        static V units(long x, long y) {
            return new V(Frac.of(x * U), Frac.of(y * U));
        }

        V plus(V o) {
            return new V(x.plus(o.x), y.plus(o.y));
        }

        V minus(V o) {
            return new V(x.minus(o.x), y.minus(o.y));
        }

        V times(Frac f) {
            return new V(x.times(f), y.times(f));
        }

        V towards(V o, Frac t) {
            return new V(x.towards(o.x, t), y.towards(o.y, t));
        }

        boolean isZero() {
            return x.isZero() && y.isZero();
        }
    }

    /** A corner has the ratio 0 : 1. */
    record Node(V at, V in, V out, Frac ratio) {
        static Node corner(V at) {
            return new Node(at, V.ZERO, V.ZERO, Frac.ZERO);
        }

        boolean isSmooth() {
            return !ratio.isZero();
        }

        Node withIn(V v) {
            return new Node(at, v, out, ratio);
        }

        Node withOut(V v) {
            return new Node(at, in, v, ratio);
        }

        Node withRatio(Frac r) {
            boolean fits = r.n().longValueExact() <= 999 && r.d().longValueExact() <= 999;
            return new Node(at, in, out, fits ? r : Frac.ZERO);
        }

        V inToldByOut() {
            return out.times(ratio).times(Frac.of(-1));
        }

        V outToldByIn() {
            return in.times(new Frac(ratio.d(), ratio.n())).times(Frac.of(-1));
        }

        List<Frac> coordinates() {
            return List.of(at.x, at.y, in.x, in.y, out.x, out.y);
        }
    }

    record Shape(List<Node> nodes, boolean closed) {
        int size() {
            return nodes.size();
        }

        int segments() {
            return closed ? size() : size() - 1;
        }

        V[] controls(int segment) {
            Node a = nodes.get(segment);
            Node b = nodes.get((segment + 1) % size());
            return new V[] {a.at, a.at.plus(a.out), b.at.plus(b.in), b.at};
        }

        boolean straight(int segment) {
            return nodes.get(segment).out.isZero() && nodes.get((segment + 1) % size()).in.isZero();
        }

        boolean between(int node) {
            return closed || (node > 0 && node < size() - 1);
        }
    }

    private List<Shape> state = List.of();
    private final Deque<List<Shape>> past = new ArrayDeque<>();
    private final Deque<List<Shape>> future = new ArrayDeque<>();
    private final List<List<Shape>> slots = new ArrayList<>(java.util.Arrays.asList(null, null));
    private final StringBuilder text = new StringBuilder();
    private String printed = "";

    private static boolean unit(int v) {
        return v >= -200 && v <= 200;
    }

    private boolean noPath(int path) {
        return path < 0 || path >= state.size();
    }

    private boolean noNode(int path, int node) {
        return noPath(path) || node < 0 || node >= state.get(path).size();
    }

    private boolean noSegment(int path, int segment) {
        return noPath(path) || segment < 0 || segment >= state.get(path).segments();
    }

    private Node node(int path, int node) {
        return state.get(path).nodes.get(node);
    }

    // ---- ways to a new state

    private int commit(List<Shape> next, long answer) {
        boolean inexact = false;
        boolean tooGreat = false;
        for (Shape shape : next) {
            for (Node node : shape.nodes) {
                for (Frac c : node.coordinates()) {
                    inexact |= !c.isWhole();
                    tooGreat |= c.isAbove(200 * U);
                }
            }
        }
        if (inexact) {
            return INEXACT;
        }
        if (tooGreat) {
            return OUT_OF_RANGE;
        }
        past.push(state);
        if (past.size() > 10) {
            past.removeLast();
        }
        future.clear();
        state = next;
        return (int) answer;
    }

    private List<Shape> with(int path, Shape shape) {
        List<Shape> next = new ArrayList<>(state);
        next.set(path, shape);
        return List.copyOf(next);
    }

    private List<Shape> withNode(int path, int node, Node changed) {
        List<Node> nodes = new ArrayList<>(state.get(path).nodes);
        nodes.set(node, changed);
        return with(path, new Shape(List.copyOf(nodes), state.get(path).closed));
    }

    private List<Shape> withNew(Shape shape) {
        List<Shape> next = new ArrayList<>(state);
        next.add(shape);
        return List.copyOf(next);
    }

    private static List<Shape> without(List<Shape> shapes, int path) {
        List<Shape> next = new ArrayList<>(shapes);
        next.remove(path);
        return List.copyOf(next);
    }

    // ---- paths

    int addPath(int x, int y) {
        if (!unit(x) || !unit(y)) {
            return BAD_VALUE;
        }
        if (state.size() == 6) {
            return FULL;
        }
        return commit(withNew(new Shape(List.of(Node.corner(V.units(x, y))), false)), state.size());
    }

    int extend(int path, int x, int y) {
        if (noPath(path)) {
            return BAD_INDEX;
        }
        if (!unit(x) || !unit(y)) {
            return BAD_VALUE;
        }
        Shape s = state.get(path);
        if (s.closed) {
            return NOT_POSSIBLE;
        }
        if (s.size() == 12) {
            return FULL;
        }
        List<Node> nodes = new ArrayList<>(s.nodes);
        nodes.add(Node.corner(V.units(x, y)));
        return commit(with(path, new Shape(nodes, false)), nodes.size());
    }

    int removePath(int path) {
        return noPath(path) ? BAD_INDEX : commit(without(state, path), state.size() - 1);
    }

    // ---- nodes

    int moveNode(int path, int node, int dx, int dy) {
        if (noNode(path, node)) {
            return BAD_INDEX;
        }
        if (!unit(dx) || !unit(dy)) {
            return BAD_VALUE;
        }
        Node n = node(path, node);
        V to = n.at.plus(V.units(dx, dy));
        return commit(withNode(path, node, new Node(to, n.in, n.out, n.ratio)), to.x.whole());
    }

    int setHandle(int path, int node, boolean out, int dx, int dy) {
        if (noNode(path, node)) {
            return BAD_INDEX;
        }
        if (!unit(dx) || !unit(dy)) {
            return BAD_VALUE;
        }
        Node n = node(path, node);
        n = out ? n.withOut(V.units(dx, dy)) : n.withIn(V.units(dx, dy));
        if (n.isSmooth()) {
            n = out ? n.withIn(n.inToldByOut()) : n.withOut(n.outToldByIn());
        }
        return commit(withNode(path, node, n), n.isSmooth() ? 1 : 0);
    }

    int setSmooth(int path, int node, int p, int q) {
        if (noNode(path, node)) {
            return BAD_INDEX;
        }
        if (p < 1 || p > 999 || q < 1 || q > 999) {
            return BAD_VALUE;
        }
        Node before = node(path, node);
        Node n = before.withRatio(Frac.of(p, q));
        n = n.out.isZero() ? n.withOut(n.outToldByIn()) : n.withIn(n.inToldByOut());
        return commit(withNode(path, node, n), before.isSmooth() ? 1 : 0);
    }

    int setCorner(int path, int node) {
        if (noNode(path, node)) {
            return BAD_INDEX;
        }
        Node before = node(path, node);
        return commit(withNode(path, node, before.withRatio(Frac.ZERO)), before.isSmooth() ? 1 : 0);
    }

    int insert(int path, int segment, int a, int b) {
        if (noSegment(path, segment)) {
            return BAD_INDEX;
        }
        if (b < 2 || b > 6 || a < 1 || a >= b) {
            return BAD_VALUE;
        }
        Shape shape = state.get(path);
        if (shape.size() == 12) {
            return FULL;
        }
        V[] p = shape.controls(segment);
        Frac t = Frac.of(a, b);
        V q0 = p[0].towards(p[1], t);
        V q1 = p[1].towards(p[2], t);
        V q2 = p[2].towards(p[3], t);
        V r0 = q0.towards(q1, t);
        V r1 = q1.towards(q2, t);
        V s = r0.towards(r1, t);
        List<Node> nodes = new ArrayList<>(shape.nodes);
        int end = (segment + 1) % shape.size();
        Node first = nodes.get(segment);
        Node last = nodes.get(end);
        nodes.set(segment, first.withOut(q0.minus(p[0])).withRatio(first.ratio.times(Frac.of(b, a))));
        nodes.set(end, last.withIn(q2.minus(p[3])).withRatio(last.ratio.times(Frac.of(b - a, b))));
        nodes.add(segment + 1, new Node(s, r0.minus(s), r1.minus(s), Frac.of(a, b - a)));
        return commit(with(path, new Shape(List.copyOf(nodes), shape.closed)), segment + 1);
    }

    int removeNode(int path, int node) {
        if (noNode(path, node)) {
            return BAD_INDEX;
        }
        List<Node> nodes = new ArrayList<>(state.get(path).nodes);
        nodes.remove(node);
        if (nodes.isEmpty()) {
            return commit(without(state, path), 0);
        }
        boolean closed = state.get(path).closed && nodes.size() > 1;
        return commit(with(path, new Shape(List.copyOf(nodes), closed)), nodes.size());
    }

    // ---- whole paths

    int split(int path, int node) {
        if (noNode(path, node)) {
            return BAD_INDEX;
        }
        Shape s = state.get(path);
        int n = s.size();
        if (s.closed) {
            if (n == 12) {
                return FULL;
            }
            List<Node> nodes = new ArrayList<>();
            for (int k = 0; k <= n; k++) {
                nodes.add(s.nodes.get((node + k) % n));
            }
            return commit(with(path, new Shape(nodes, false)), state.size());
        }
        if (node == 0 || node == n - 1) {
            return NOT_POSSIBLE;
        }
        if (state.size() == 6) {
            return FULL;
        }
        List<Shape> next = new ArrayList<>(with(path, new Shape(List.copyOf(s.nodes.subList(0, node + 1)), false)));
        next.add(new Shape(List.copyOf(s.nodes.subList(node, n)), false));
        return commit(List.copyOf(next), next.size());
    }

    int join(int path, int other) {
        if (noPath(path) || noPath(other)) {
            return BAD_INDEX;
        }
        Shape s = state.get(path);
        Shape o = state.get(other);
        Node former = s.nodes.get(s.size() - 1);
        Node latter = o.nodes.get(0);
        boolean meet = former.at.equals(latter.at);
        Node merged = new Node(former.at, former.in, latter.out, former.ratio);
        if (!former.ratio.equals(latter.ratio) || !merged.in.equals(merged.inToldByOut())) {
            merged = merged.withRatio(Frac.ZERO);
        }
        List<Node> nodes = new ArrayList<>(s.nodes);
        if (path == other) {
            if (meet) {
                nodes.set(0, merged);
                nodes.remove(nodes.size() - 1);
            }
            if (s.closed || nodes.size() < 2) {
                return NOT_POSSIBLE;
            }
            return commit(with(path, new Shape(List.copyOf(nodes), true)), nodes.size());
        }
        if (s.closed || o.closed) {
            return NOT_POSSIBLE;
        }
        if (meet) {
            nodes.set(nodes.size() - 1, merged);
        }
        nodes.addAll(o.nodes.subList(meet ? 1 : 0, o.size()));
        if (nodes.size() > 12) {
            return FULL;
        }
        return commit(without(with(path, new Shape(List.copyOf(nodes), false)), other), nodes.size());
    }

    int reverse(int path) {
        if (noPath(path)) {
            return BAD_INDEX;
        }
        List<Node> nodes = new ArrayList<>();
        for (Node n : state.get(path).nodes) {
            Frac ratio = n.isSmooth() ? new Frac(n.ratio.d(), n.ratio.n()) : n.ratio;
            nodes.add(0, new Node(n.at, n.out, n.in, ratio));
        }
        return commit(with(path, new Shape(List.copyOf(nodes), state.get(path).closed)), nodes.size());
    }

    int transform(int path, int a, int b, int c, int d, int q) {
        if (noPath(path)) {
            return BAD_INDEX;
        }
        for (int factor : new int[] {a, b, c, d}) {
            if (factor < -9 || factor > 9) {
                return BAD_VALUE;
            }
        }
        if (q < 1 || q > 6) {
            return BAD_VALUE;
        }
        List<Node> nodes = new ArrayList<>();
        for (Node n : state.get(path).nodes) {
            List<V> mapped = new ArrayList<>();
            for (V v : List.of(n.at, n.in, n.out)) {
                mapped.add(new V(v.x.times(Frac.of(a, q)).plus(v.y.times(Frac.of(b, q))),
                    v.x.times(Frac.of(c, q)).plus(v.y.times(Frac.of(d, q)))));
            }
            nodes.add(new Node(mapped.get(0), mapped.get(1), mapped.get(2), n.ratio));
        }
        return commit(with(path, new Shape(List.copyOf(nodes), state.get(path).closed)), nodes.size());
    }

    int shift(int path, int dx, int dy) {
        if (noPath(path)) {
            return BAD_INDEX;
        }
        if (!unit(dx) || !unit(dy)) {
            return BAD_VALUE;
        }
        List<Node> nodes = new ArrayList<>();
        for (Node n : state.get(path).nodes) {
            nodes.add(new Node(n.at.plus(V.units(dx, dy)), n.in, n.out, n.ratio));
        }
        return commit(with(path, new Shape(List.copyOf(nodes), state.get(path).closed)), nodes.size());
    }

    // ---- history

    int undo() {
        if (past.isEmpty()) {
            return NOT_POSSIBLE;
        }
        future.push(state);
        state = past.pop();
        return past.size();
    }

    int redo() {
        if (future.isEmpty()) {
            return NOT_POSSIBLE;
        }
        past.push(state);
        if (past.size() > 10) {
            past.removeLast();
        }
        state = future.pop();
        return future.size();
    }

    // ---- what there is

    int paths() {
        return state.size();
    }

    int nodes(int path) {
        return noPath(path) ? BAD_INDEX : state.get(path).size();
    }

    int isClosed(int path) {
        if (noPath(path)) {
            return BAD_INDEX;
        }
        return state.get(path).closed ? 1 : 0;
    }

    int coordinate(int path, int node, int what) {
        if (noNode(path, node)) {
            return BAD_INDEX;
        }
        return what < 0 || what > 5 ? BAD_VALUE : (int) node(path, node).coordinates().get(what).whole();
    }

    int ratio(int path, int node, boolean second) {
        if (noNode(path, node)) {
            return BAD_INDEX;
        }
        Node n = node(path, node);
        if (!n.isSmooth()) {
            return NONE;
        }
        return second ? n.ratio.d().intValue() : n.ratio.n().intValue();
    }

    int point(int path, int segment, int a, int b, boolean vertical) {
        if (noSegment(path, segment)) {
            return BAD_INDEX;
        }
        if (b < 1 || b > 6 || a < 0 || a > b) {
            return BAD_VALUE;
        }
        V[] p = state.get(path).controls(segment);
        Frac t = Frac.of(a, b);
        Frac u = Frac.of(1).minus(t);
        V sum = p[0].times(u.times(u).times(u))
            .plus(p[1].times(u.times(u).times(t).times(Frac.of(3))))
            .plus(p[2].times(u.times(t).times(t).times(Frac.of(3))))
            .plus(p[3].times(t.times(t).times(t)));
        Frac c = vertical ? sum.y : sum.x;
        return c.isWhole() ? (int) c.whole() : INEXACT;
    }

    /** The coefficients of 1, t, t ^ 2 and t ^ 3. */
    private static Frac[] powers(Frac p0, Frac p1, Frac p2, Frac p3) {
        Frac three = Frac.of(3);
        return new Frac[] {p0, p1.minus(p0).times(three), p0.plus(p2).minus(p1).minus(p1).times(three),
            p3.minus(p0).plus(p1.minus(p2).times(three))};
    }

    long area(int path) {
        if (noPath(path)) {
            return BAD_INDEX;
        }
        Shape s = state.get(path);
        if (!s.closed) {
            return NOT_POSSIBLE;
        }
        Frac sum = Frac.ZERO;
        for (int k = 0; k < s.segments(); k++) {
            V[] p = s.controls(k);
            Frac[] x = powers(p[0].x, p[1].x, p[2].x, p[3].x);
            Frac[] y = powers(p[0].y, p[1].y, p[2].y, p[3].y);
            for (int i = 0; i < 4; i++) {
                for (int j = 1; j < 4; j++) {
                    sum = sum.plus(x[i].times(y[j]).times(Frac.of(j, i + j)));
                }
            }
        }
        return sum.times(Frac.of(60)).whole();
    }

    int box(int path, int side) {
        if (noPath(path)) {
            return BAD_INDEX;
        }
        if (side < 0 || side > 3) {
            return BAD_VALUE;
        }
        Shape s = state.get(path);
        List<V> all = new ArrayList<>(List.of(s.nodes.get(0).at));
        for (int k = 0; k < s.segments(); k++) {
            all.addAll(List.of(s.controls(k)));
        }
        return (int) (side % 2 == 0
            ? all.stream().mapToLong(v -> (side == 0 ? v.x : v.y).whole()).min().orElseThrow()
            : all.stream().mapToLong(v -> (side == 1 ? v.x : v.y).whole()).max().orElseThrow());
    }

    int find(int x, int y) {
        if (!unit(x) || !unit(y)) {
            return BAD_VALUE;
        }
        for (int k = 0; k < state.size(); k++) {
            for (int j = 0; j < state.get(k).size(); j++) {
                if (node(k, j).at.equals(V.units(x, y))) {
                    return 100 * k + j;
                }
            }
        }
        return NONE;
    }

    int corners(int path) {
        if (noPath(path)) {
            return BAD_INDEX;
        }
        int sum = 0;
        for (int k = 0; k < state.get(path).size(); k++) {
            sum += !node(path, k).isSmooth() && state.get(path).between(k) ? 1 : 0;
        }
        return sum;
    }

    // ---- text

    private static final String NUMBER = "(?:0|-?[1-9][0-9]*)";
    private static final String PLACE = NUMBER + " " + NUMBER;
    private static final String SEGMENT = "(?:L" + PLACE + "|C" + PLACE + " " + PLACE + " " + PLACE + ")";
    private static final Pattern TEXT =
        Pattern.compile("M" + PLACE + "(?:" + SEGMENT + "{0,11}|" + SEGMENT + "{1,11}Z)");
    private static final Pattern TOKEN = Pattern.compile("-?[0-9]+|[MLCZ]");

    int append(int letter) {
        if (letter < 0 || letter > 127) {
            return BAD_VALUE;
        }
        if (text.length() == 120) {
            return FULL;
        }
        text.append((char) letter);
        return text.length();
    }

    int clearText() {
        int before = text.length();
        text.setLength(0);
        return before;
    }

    int faultPosition() {
        int form = faultOfForm();
        int number = faultOfNumbers(form == NONE ? text.length() : form);
        return number == NONE ? form : number;
    }

    /** The first byte with which no text of this form begins, whatever its numbers are. */
    private int faultOfForm() {
        if (TEXT.matcher(text).matches()) {
            return NONE;
        }
        for (int end = 1; end <= text.length(); end++) {
            Matcher m = TEXT.matcher(text.substring(0, end));
            if (!m.matches() && !m.hitEnd()) {
                return end - 1;
            }
        }
        return text.length();
    }

    private int faultOfNumbers(int end) {
        Matcher m = TOKEN.matcher(text.substring(0, end));
        List<Long> before = new ArrayList<>();
        int first = 0;
        char letter = 'M';
        while (m.find()) {
            String token = m.group();
            if (Character.isLetter(token.charAt(0))) {
                letter = token.charAt(0);
                first = before.size();
                continue;
            }
            long value = new java.math.BigInteger(token).min(java.math.BigInteger.valueOf(9999))
                .max(java.math.BigInteger.valueOf(-9999)).longValue();
            int k = before.size() - first;
            long other = 0;
            if (letter == 'C' && (k < 2 || k > 3)) {
                other = before.get(before.size() - 2);
            }
            if (Math.abs(value) > 200 || Math.abs(value - other) > 200) {
                return m.start();
            }
            before.add(value);
        }
        return NONE;
    }

    int read() {
        if (faultPosition() != NONE) {
            return NOT_POSSIBLE;
        }
        if (state.size() == 6) {
            return FULL;
        }
        List<Node> nodes = new ArrayList<>();
        for (String part : text.substring(1).replace("Z", "").split("(?=[LC])")) {
            boolean curve = part.startsWith("C");
            String[] n = part.replaceAll("[LC]", "").split(" ");
            V[] v = new V[n.length / 2];
            for (int k = 0; k < v.length; k++) {
                v[k] = V.units(Long.parseLong(n[2 * k]), Long.parseLong(n[2 * k + 1]));
            }
            Node fresh = Node.corner(v[v.length - 1]);
            if (curve) {
                Node from = nodes.get(nodes.size() - 1);
                nodes.set(nodes.size() - 1, from.withOut(v[0].minus(from.at)));
                fresh = fresh.withIn(v[1].minus(fresh.at));
            }
            nodes.add(fresh);
        }
        return commit(withNew(new Shape(List.copyOf(nodes), text.indexOf("Z") >= 0)), state.size());
    }

    private static boolean appendPlace(StringBuilder to, V v, String behind) {
        Frac x = v.x.times(Frac.of(1, U));
        Frac y = v.y.times(Frac.of(1, U));
        to.append(x.n()).append(' ').append(y.n()).append(behind);
        return x.isWhole() && y.isWhole();
    }

    int print(int path) {
        if (noPath(path)) {
            return BAD_INDEX;
        }
        Shape s = state.get(path);
        StringBuilder to = new StringBuilder("M");
        boolean good = appendPlace(to, s.nodes.get(0).at, "");
        for (int k = 0; k < s.size() - 1; k++) {
            V[] p = s.controls(k);
            to.append(s.straight(k) ? "L" : "C");
            if (!s.straight(k)) {
                good &= appendPlace(to, p[1], " ");
                good &= appendPlace(to, p[2], " ");
            }
            good &= appendPlace(to, p[3], "");
        }
        if (s.closed) {
            to.append("Z");
            good &= s.straight(s.size() - 1);
        }
        if (!good) {
            return NOT_POSSIBLE;
        }
        printed = to.toString();
        return printed.length();
    }

    int printed(int index) {
        return index < 0 || index >= printed.length() ? BAD_INDEX : printed.charAt(index);
    }

    // ---- slots, checksum

    int save(int slot) {
        if (slot < 0 || slot > 1) {
            return BAD_INDEX;
        }
        slots.set(slot, state);
        return state.size();
    }

    int restore(int slot) {
        if (slot < 0 || slot > 1) {
            return BAD_INDEX;
        }
        if (slots.get(slot) == null) {
            return NOT_POSSIBLE;
        }
        state = slots.get(slot);
        past.clear();
        future.clear();
        return state.size();
    }

    long checksum() {
        List<Long> values = new ArrayList<>();
        values.add((long) paths());
        for (int k = 0; k < paths(); k++) {
            values.add((long) nodes(k));
            values.add((long) isClosed(k));
            for (int j = 0; j < nodes(k); j++) {
                for (int what = 0; what < 6; what++) {
                    values.add((long) coordinate(k, j, what));
                }
                values.add((long) ratio(k, j, false));
                values.add((long) ratio(k, j, true));
            }
            if (isClosed(k) == 1) {
                values.add(area(k));
            }
        }
        long h = 59;
        for (long value : values) {
            h = 31 * h + value;
        }
        return h;
    }
}
