import java.lang.reflect.InvocationTargetException;
import java.lang.reflect.Method;
import java.util.ArrayList;
import java.util.HashMap;
import java.util.List;
import java.util.Map;

/** A call of the face, by its name and its arguments. */
final class Call {
    private static final Map<String, Method> METHODS = methods();

    final String name;
    private final Method method;
    private final Object[] arguments;

    Call(String name, Object... arguments) {
        this.name = name;
        this.arguments = arguments;
        method = METHODS.get(name);
        if (method == null) {
            throw new AssertionError("there is no method " + name);
        }
    }

    private static Map<String, Method> methods() {
        Map<String, Method> all = new HashMap<>();
        for (Method method : MouldFloor.class.getDeclaredMethods()) {
            all.put(method.getName(), method);
        }
        return all;
    }

    /** Reads what stands between the parentheses of a row; min and max are the least and the most int. */
    static Call read(String name, String told) {
        Class<?>[] types = new Call(name).method.getParameterTypes();
        String[] words = told.isEmpty() ? new String[0] : told.split(", ");
        if (words.length != types.length) {
            throw new AssertionError(name + " does not take " + told);
        }
        Object[] arguments = new Object[words.length];
        for (int place = 0; place < words.length; place++) {
            arguments[place] = argument(types[place], words[place]);
        }
        return new Call(name, arguments);
    }

    private static Object argument(Class<?> type, String word) {
        if (type == boolean.class) {
            return Boolean.valueOf(word);
        }
        if (type == char.class) {
            return word.startsWith("'") ? word.charAt(1) : (char) Integer.parseInt(word);
        }
        return switch (word) {
            case "min" -> Integer.MIN_VALUE;
            case "max" -> Integer.MAX_VALUE;
            default -> Integer.parseInt(word);
        };
    }

    static List<Call> appends(String text) {
        List<Call> all = new ArrayList<>();
        for (char character : text.toCharArray()) {
            all.add(new Call("append", character));
        }
        return all;
    }

    /** The answer, or the class of the exception. */
    Object on(MouldFloor x) {
        try {
            return method.invoke(x, arguments);
        } catch (InvocationTargetException thrown) {
            return thrown.getCause().getClass();
        } catch (IllegalAccessException hidden) {
            throw new AssertionError(hidden);
        }
    }
}
