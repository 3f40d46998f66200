import java.lang.reflect.InvocationTargetException;
import java.lang.reflect.Method;
import java.util.Arrays;
import java.util.HashMap;
import java.util.Map;

/** A yard and its reference, of which every call is asked; a call that they answer otherwise is printed. */
public final class Twins {
    private static final Map<String, Method> YARD = methodsOf(ArchYard.class);
    private static final Map<String, Method> REFERENCE = methodsOf(Reference.class);
    private static int wrong = 0;

    private final ArchYard yard = new ArchYard();
    private final Reference reference = new Reference();
    private final StringBuilder story = new StringBuilder();
    private final String name;
    private boolean isApart;

    public Twins(String name) {
        this.name = name;
    }

    public static int wrongAnswers() {
        return wrong;
    }

    public static Iterable<String> names() {
        return YARD.keySet();
    }

    public static int parametersOf(String call) {
        return YARD.get(call).getParameterCount();
    }

    private static Map<String, Method> methodsOf(Class<?> type) {
        Map<String, Method> map = new java.util.TreeMap<>();
        for (Method method : type.getDeclaredMethods()) {
            boolean isFace = java.lang.reflect.Modifier.isPublic(method.getModifiers());
            if (isFace) map.put(method.getName(), method);
        }
        return new HashMap<>(map);
    }

    /** What the reference answers, or null if it throws. */
    public Integer ask(String call, int... args) {
        Object due = answer(REFERENCE.get(call), reference, args);
        Object got = answer(YARD.get(call), yard, args);
        story.append(call).append(Arrays.toString(args)).append(" -> ").append(due).append('\n');
        if (!due.equals(got) && !isApart) {
            wrong++;
            isApart = true;
            System.out.println(name + ": " + call + Arrays.toString(args) + " answered " + got + ", due is " + due);
            if (wrong <= 2) System.out.println(story);
        }
        return due instanceof Integer number ? number : null;
    }

    private static Object answer(Method method, Object object, int[] args) {
        Object[] boxed = Arrays.stream(args).boxed().toArray();
        try {
            Object value = method.invoke(object, boxed);
            if (value instanceof Boolean truth) return truth ? 1 : 0;
            return value == null ? "nothing" : value;
        } catch (InvocationTargetException e) {
            if (e.getCause() instanceof Error error) throw error;
            return e.getCause().getClass().getName();
        } catch (IllegalAccessException e) {
            throw new IllegalStateException(e);
        }
    }
}
