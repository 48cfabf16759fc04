import java.lang.reflect.InvocationTargetException;
import java.lang.reflect.Method;
import java.util.Arrays;
import java.util.Map;
import java.util.Set;
import java.util.concurrent.ConcurrentHashMap;
import java.util.stream.Collectors;

/** A call of the document's face. The class and the model have the same calls, so one can be made on either. */
record Call(String name, int... arguments) {
    /** An object is used for at most so many calls; what later ones answer is free. */
    static final int MOST = 512;

    private static final Set<String> CHANGING = Set.of("put", "cell", "drop", "fill", "open", "go", "close",
            "commit", "reset", "sweep", "diff", "merge", "pick", "undo", "settle", "send", "fetch");

    private static final Map<Class<?>, Map<String, Method>> METHODS = new ConcurrentHashMap<>();

    /** Whether the document lets the call change something. */
    boolean isChanging() {
        return CHANGING.contains(name);
    }

    /** The answer; a boolean counts 1 or 0. */
    long on(Object program) {
        Method method = METHODS.computeIfAbsent(program.getClass(), Call::methodsOf).get(name);
        if (method == null || method.getParameterCount() != arguments.length) {
            throw new IllegalStateException("there is no such call: " + this);
        }
        try {
            Object answer = method.invoke(program, Arrays.stream(arguments).boxed().toArray());
            return answer instanceof Boolean yes ? (yes ? 1 : 0) : ((Number) answer).longValue();
        } catch (InvocationTargetException e) {
            throw new IllegalStateException(this + " threw", e.getCause());
        } catch (IllegalAccessException e) {
            throw new IllegalStateException(this + " cannot be made", e);
        }
    }

    private static Map<String, Method> methodsOf(Class<?> type) {
        return Arrays.stream(type.getDeclaredMethods()).filter(method -> !method.isSynthetic())
                .collect(Collectors.toMap(Method::getName, method -> method, (one, two) -> one));
    }

    @Override
    public String toString() {
        return name + Arrays.toString(arguments).replace('[', '(').replace(']', ')');
    }
}
