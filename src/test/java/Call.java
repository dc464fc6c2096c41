import java.lang.reflect.InvocationTargetException;
import java.lang.reflect.Method;
import java.lang.reflect.Modifier;
import java.util.HashMap;
import java.util.Map;
import java.util.StringJoiner;

/** One call of the face, told by its name and its numbers, so that it can be made on any album. */
record Call(String name, long... numbers) {
    private static final Map<String, Method> FACE = new HashMap<>();

    static {
        for (Method method : SquareAlbum.class.getDeclaredMethods()) {
            if (Modifier.isPublic(method.getModifiers())) {
                FACE.put(method.getName(), method);
            }
        }
    }

    long on(SquareAlbum album) {
        Method method = FACE.get(name);
        if (method == null || method.getParameterCount() != numbers.length) {
            throw new IllegalStateException("a test makes a call that there is not: " + this);
        }
        Class<?>[] types = method.getParameterTypes();
        Object[] given = new Object[numbers.length];
        for (int k = 0; k < numbers.length; k++) {
            given[k] = types[k] == long.class ? (Object) numbers[k] : (Object) Math.toIntExact(numbers[k]);
        }
        try {
            return ((Number) method.invoke(album, given)).longValue();
        } catch (IllegalAccessException | InvocationTargetException e) {
            throw new IllegalStateException(this + " has thrown", e);
        }
    }

    @Override
    public String toString() {
        StringJoiner all = new StringJoiner(", ", name + "(", ")");
        for (long number : numbers) {
            all.add(Long.toString(number));
        }
        return all.toString();
    }
}
