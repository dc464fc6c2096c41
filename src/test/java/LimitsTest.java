import java.lang.reflect.Method;
import java.lang.reflect.Modifier;
import java.util.ArrayList;
import java.util.Comparator;
import java.util.List;

/** Every call with every mix of numbers at the edges, in several states: none throws, all answer as the plain album. */
public final class LimitsTest {
    private static final int[] EDGES = {Integer.MIN_VALUE, -1, 0, 1, 2, 8, Integer.MAX_VALUE};
    private static final String[] TEXTS = {
        "",
        "square 3 3;",
        "wall 1 1;person 0 0 0 0 9 0;picture 0 0 0 9 0;",
        "square 12 12;wall 2 2;person 1 1 0 0 99 1;person 2 0 1 1 99 1;person 8 8 4 0 99 2;picture 0 0 0 9 0;picture 0 1 0 9 1;"
            + "picture 8 7 1 2 2;",
        "person 1 0 4 99 99 9;".repeat(8) + "picture 0 0 0 9 99;".repeat(10)};

    private static final Due DUE = new Due();

    public static void main(String[] args) throws ReflectiveOperationException {
        List<Method> methods = new ArrayList<>(List.of(SquareAlbum.class.getDeclaredMethods()));
        methods.removeIf(method -> !Modifier.isPublic(method.getModifiers()));
        methods.sort(Comparator.comparing(Method::getName));
        for (String text : TEXTS) {
            for (Method method : methods) {
                SquareAlbum album = Due.album(text);
                PlainAlbum plain = new PlainAlbum();
                for (int k = 0; k < text.length(); k++) {
                    plain.type(text.charAt(k), 1);
                }
                plain.square();
                callAll(album, plain, method);
            }
        }
        DUE.end();
    }

    private static void callAll(SquareAlbum album, PlainAlbum plain, Method method) throws ReflectiveOperationException {
        Class<?>[] types = method.getParameterTypes();
        Method same = PlainAlbum.class.getDeclaredMethod(method.getName(), types);
        int mixes = 1;
        for (int k = 0; k < types.length; k++) {
            mixes *= EDGES.length;
        }
        for (int mix = 0; mix < mixes; mix++) {
            Object[] numbers = new Object[types.length];
            int rest = mix;
            for (int k = 0; k < types.length; k++) {
                int edge = EDGES[rest % EDGES.length];
                numbers[k] = types[k] == long.class ? (Object) (long) edge : (Object) edge;
                rest /= EDGES.length;
            }
            long got = ((Number) method.invoke(album, numbers)).longValue();
            long want = ((Number) same.invoke(plain, numbers)).longValue();
            DUE.due(method.getName() + java.util.Arrays.toString(numbers), got, want);
        }
    }
}
