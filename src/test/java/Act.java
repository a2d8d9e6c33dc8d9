import java.lang.reflect.InvocationTargetException;
import java.lang.reflect.Method;
import java.util.ArrayList;
import java.util.HashMap;
import java.util.List;
import java.util.Map;

/** A call as it is written, "lead(0, 0, 4, 4)", which any object with the document's methods can be asked. */
record Act(String name, List<Object> arguments) {
    private static final Map<Class<?>, Map<String, Method>> METHODS = new HashMap<>();

    static Act of(String text) {
        int open = text.indexOf('(');
        List<Object> arguments = new ArrayList<>();
        for (String argument : text.substring(open + 1, text.lastIndexOf(')')).split(",")) {
            String word = argument.strip();
            if (word.equals("true") || word.equals("false")) {
                arguments.add(Boolean.valueOf(word));
            } else if (!word.isEmpty()) {
                arguments.add(Integer.valueOf(word));
            }
        }
        return new Act(text.substring(0, open).strip(), arguments);
    }

    /** A call that throws ends the test. */
    long on(Object bench) {
        try {
            Method method = METHODS.computeIfAbsent(bench.getClass(), Act::methods).get(name);
            return ((Number) method.invoke(bench, arguments.toArray())).longValue();
        } catch (InvocationTargetException e) {
            throw new IllegalStateException(this + " threw", e.getCause());
        } catch (IllegalAccessException e) {
            throw new IllegalStateException(this + " can't be called", e);
        }
    }

    private static Map<String, Method> methods(Class<?> benches) {
        Map<String, Method> byName = new HashMap<>();
        for (Method method : benches.getDeclaredMethods()) {
            byName.put(method.getName(), method);
        }
        return byName;
    }

    @Override
    public String toString() {
        String list = arguments.toString();
        return name + "(" + list.substring(1, list.length() - 1) + ")";
    }
}
