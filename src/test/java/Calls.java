import java.lang.reflect.InvocationTargetException;
import java.lang.reflect.Method;
import java.util.HashMap;
import java.util.Map;
import java.util.stream.Collectors;
import java.util.stream.IntStream;

/** Calls told by a name and numbers: on the class, or on a model that has methods of the same names. */
final class Calls {
    private final Object object;
    private final Map<String, Method> methods = new HashMap<>();

    Calls(Object object) {
        this.object = object;
        for (Method m : object.getClass().getDeclaredMethods()) {
            methods.put(m.getName() + m.getParameterCount(), m);
        }
    }

    long answer(String name, int... numbers) {
        Method method = methods.get(name + numbers.length);
        if (method == null) {
            throw new IllegalArgumentException("no call " + told(name, numbers));
        }
        try {
            return ((Number) method.invoke(object, IntStream.of(numbers).boxed().toArray())).longValue();
        } catch (InvocationTargetException e) {
            throw new IllegalStateException(told(name, numbers) + " threw", e.getCause());
        } catch (IllegalAccessException e) {
            throw new IllegalStateException(e);
        }
    }

    static String told(String name, int... numbers) {
        return name + IntStream.of(numbers).mapToObj(String::valueOf).collect(Collectors.joining(", ", "(", ")"));
    }
}
