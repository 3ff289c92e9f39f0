import java.lang.reflect.Constructor;
import java.lang.reflect.Field;
import java.lang.reflect.Member;
import java.lang.reflect.Method;
import java.lang.reflect.Modifier;
import java.util.Arrays;
import java.util.Set;
import java.util.TreeSet;

/** The constants and the signatures of the document's face, and that nothing else can be seen. */
public final class FaceTest {
    private static final String METHODS = "int addPath(int, int); int extend(int, int, int); int removePath(int); "
        + "int moveNode(int, int, int, int); int setHandle(int, int, boolean, int, int); "
        + "int setSmooth(int, int, int, int); int setCorner(int, int); int insert(int, int, int, int); "
        + "int removeNode(int, int); int split(int, int); int join(int, int); int reverse(int); "
        + "int transform(int, int, int, int, int, int); int shift(int, int, int); int undo(); int redo(); "
        + "int paths(); int nodes(int); int isClosed(int); int coordinate(int, int, int); "
        + "int ratio(int, int, boolean); int point(int, int, int, int, boolean); long area(int); "
        + "int box(int, int); int find(int, int); int corners(int); int append(int); int clearText(); "
        + "int faultPosition(); int read(); int print(int); int printed(int); int save(int); int restore(int); "
        + "long checksum()";

    private FaceTest() {
    }

    public static void main(String[] args) throws IllegalAccessException {
        constants();
        signatures();
        sizes(PathEditor.class);
        namesOfTheirOwn(PathEditor.class);
        Class<?>[] insides = PathEditor.class.getDeclaredClasses();
        Due.is("at most twelve classes", insides.length < 12 ? 1 : 0, 1);
        for (Class<?> inside : insides) {
            Due.is(inside.getName() + " is static", Modifier.isStatic(inside.getModifiers()) ? 1 : 0, 1);
            sizes(inside);
            namesOfTheirOwn(inside);
        }
        Due.end();
    }

    private static void constants() throws IllegalAccessException {
        String[] names = {"BAD_INDEX", "BAD_VALUE", "NOT_POSSIBLE", "FULL", "INEXACT", "OUT_OF_RANGE", "NONE"};
        int seen = 0;
        for (Field field : PathEditor.class.getDeclaredFields()) {
            if (Modifier.isPrivate(field.getModifiers())) {
                continue;
            }
            seen++;
            Due.is(field.getName() + " is public static final", field.getModifiers(),
                Modifier.PUBLIC | Modifier.STATIC | Modifier.FINAL);
            int index = Arrays.asList(names).indexOf(field.getName());
            Due.is(field.getName(), field.getInt(null), index < 0 ? 46656 : -100000001 - index);
        }
        Due.is("constants", seen, 8);
        Due.is("U", PathEditor.U, 46656);
    }

    private static void signatures() {
        Set<String> seen = new TreeSet<>();
        for (Method method : PathEditor.class.getDeclaredMethods()) {
            if (!Modifier.isPrivate(method.getModifiers())) {
                Due.is(method.getName() + " is public alone", method.getModifiers(), Modifier.PUBLIC);
                seen.add(signature(method));
            }
        }
        Set<String> wanted = new TreeSet<>(Arrays.asList(METHODS.split("; ")));
        Due.is("methods " + seen, seen.equals(wanted) ? 1 : 0, 1);
        Constructor<?>[] constructors = PathEditor.class.getDeclaredConstructors();
        Due.is("constructors", constructors.length, 1);
        Due.is("arguments of the constructor", constructors[0].getParameterCount(), 0);
        Due.is("constructor", constructors[0].getModifiers(), Modifier.PUBLIC);
        Due.is("class", PathEditor.class.getModifiers(), Modifier.PUBLIC | Modifier.FINAL);
    }

    private static String signature(Method method) {
        StringBuilder text = new StringBuilder(method.getReturnType().getName()).append(' ').append(method.getName());
        String types = String.join(", ", Arrays.stream(method.getParameterTypes()).map(Class::getName).toList());
        return text.append('(').append(types).append(')').toString();
    }

    /** At most seven parameters, at most twenty fields beside the constants, and no static field that is not final. */
    private static void sizes(Class<?> some) {
        for (Method method : some.getDeclaredMethods()) {
            Due.is("parameters of " + method, method.getParameterCount() <= 7 ? 1 : 0, 1);
        }
        int fields = 0;
        for (Field field : some.getDeclaredFields()) {
            boolean shared = Modifier.isStatic(field.getModifiers());
            Due.is(field + " is final or no static one", !shared || Modifier.isFinal(field.getModifiers()) ? 1 : 0, 1);
            fields += shared ? 0 : 1;
        }
        Due.is("fields of " + some.getName(), fields <= 20 ? 1 : 0, 1);
    }

    /** No private method bears the name of a public one. */
    private static void namesOfTheirOwn(Class<?> some) {
        for (Member member : some.getDeclaredMethods()) {
            if (!Modifier.isPrivate(member.getModifiers())) {
                continue;
            }
            Due.is(some.getName() + "." + member.getName() + " has a name of its own",
                METHODS.contains(" " + member.getName() + "(") ? 1 : 0, 0);
        }
    }
}
