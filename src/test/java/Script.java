import java.lang.reflect.InvocationTargetException;
import java.lang.reflect.Method;
import java.util.ArrayList;
import java.util.List;
import java.util.Map;
import java.util.TreeMap;

/** Calls on a new object, written as texts such as "extend(0, 6, 0)", more than one with "; " between them. */
final class Script {
    static final int BAD_INDEX = -100000001;
    static final int BAD_VALUE = -100000002;
    static final int NOT_POSSIBLE = -100000003;
    static final int FULL = -100000004;
    static final int INEXACT = -100000005;
    static final int OUT_OF_RANGE = -100000006;
    static final int NONE = -100000007;
    static final int U = 46656;

    private static final int MOST_CALLS = 512;
    private static final Map<String, Method> METHODS = new TreeMap<>();

    static {
        for (Method method : PathEditor.class.getMethods()) {
            METHODS.put(method.getName(), method);
        }
    }

    private final PathEditor editor = new PathEditor();
    private final List<String> made = new ArrayList<>();
    private int calls = 0;

    Script(String... scene) {
        for (String part : scene) {
            make(part);
        }
    }

    /** Makes calls whose answers are looked at elsewhere. */
    Script make(String several) {
        for (String call : several.split("; ")) {
            if (!call.isEmpty()) {
                answer(call);
            }
        }
        return this;
    }

    Script type(String text) {
        int before = made.size();
        for (char letter : text.toCharArray()) {
            answer("append(" + (int) letter + ")");
        }
        made.subList(before, made.size()).clear();
        made.add("[" + text + "]");
        return this;
    }

    Script due(String call, long want) {
        long got = answer(call);
        Due.is(got == want ? call : String.join("; ", made), got, want);
        return this;
    }

    /** The six coordinates and the ratio of a node, in parts; the ratio of a corner is NONE : NONE. */
    Script dueNode(int path, int node, long... values) {
        for (int what = 0; what < 6; what++) {
            due("coordinate(" + path + ", " + node + ", " + what + ")", values[what]);
        }
        due("ratio(" + path + ", " + node + ", false)", values[6]);
        return due("ratio(" + path + ", " + node + ", true)", values[7]);
    }

    /** The number of nodes and their x in units. */
    Script dueX(int path, int... units) {
        due("nodes(" + path + ")", units.length);
        for (int k = 0; k < units.length; k++) {
            due("coordinate(" + path + ", " + k + ", 0)", (long) units[k] * U);
        }
        return this;
    }

    Script duePrinted(String text) {
        for (int k = 0; k < text.length(); k++) {
            due("printed(" + k + ")", text.charAt(k));
        }
        return due("printed(" + text.length() + ")", BAD_INDEX);
    }

    int calls() {
        return calls;
    }

    long answer(String call) {
        calls++;
        if (calls > MOST_CALLS) {
            throw new IllegalStateException("more calls than an object is used for");
        }
        made.add(call);
        int open = call.indexOf('(');
        String inside = call.substring(open + 1, call.length() - 1);
        String[] words = inside.isEmpty() ? new String[0] : inside.split(", ");
        Method method = METHODS.get(call.substring(0, open));
        if (method == null || method.getParameterCount() != words.length) {
            throw new IllegalStateException("no such call: " + call);
        }
        return answer(method, words);
    }

    private long answer(Method method, String[] words) {
        Object[] values = new Object[words.length];
        for (int k = 0; k < words.length; k++) {
            boolean isWord = method.getParameterTypes()[k] == boolean.class;
            values[k] = isWord ? (Object) words[k].equals("true") : number(words[k]);
        }
        try {
            return ((Number) method.invoke(editor, values)).longValue();
        } catch (InvocationTargetException thrown) {
            System.out.println(String.join("; ", made) + " threw " + thrown.getCause());
            return Long.MIN_VALUE;
        } catch (IllegalAccessException hidden) {
            throw new IllegalStateException(hidden);
        }
    }

    private static Object number(String word) {
        return switch (word) {
            case "MIN" -> Integer.MIN_VALUE;
            case "MAX" -> Integer.MAX_VALUE;
            default -> Integer.valueOf(word);
        };
    }
}
