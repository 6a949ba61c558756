import java.lang.reflect.InvocationTargetException;
import java.lang.reflect.Method;
import java.util.HashMap;
import java.util.Map;

/** An object of the program, asked by the names of its calls; it counts them, for behind 512 nothing is promised. */
final class Run {
    static final int MOST_CALLS = 512;
    /** What a call that threw answers: no call of the document answers this. */
    static final long THREW = Long.MIN_VALUE;
    private static final Map<String, Method> FACE = face();

    private final MothCustoms x = new MothCustoms();
    private int calls = 0;

    private static Map<String, Method> face() {
        Map<String, Method> face = new HashMap<>();
        for (Method m : MothCustoms.class.getMethods()) face.put(m.getName(), m);
        return face;
    }

    /** A boolean is told as a number: 0 is false. */
    long call(String name, int... args) {
        if (++calls > MOST_CALLS) throw new IllegalStateException("a test that calls too often");
        return answer(x, FACE.get(name), args);
    }

    static long answer(Object of, Method method, int... args) {
        Class<?>[] types = method.getParameterTypes();
        if (types.length != args.length) throw new IllegalStateException(method + " takes " + types.length);
        Object[] given = new Object[types.length];
        for (int i = 0; i < types.length; i++) given[i] = types[i] == boolean.class ? (Object) (args[i] != 0) : (Object) args[i];
        try {
            return ((Number) method.invoke(of, given)).longValue();
        } catch (InvocationTargetException e) {
            e.getCause().printStackTrace(System.out);
            return THREW;
        } catch (IllegalAccessException e) {
            throw new IllegalStateException(e);
        }
    }

    static Method ofFace(String name) { return FACE.get(name); }

    int left() { return MOST_CALLS - calls; }

    Run feed(String bytes) {
        for (int i = 0; i < bytes.length(); i++) call("feed", bytes.charAt(i));
        return this;
    }

    long tell(String text) { return feed(text).call("text"); }

    /** Bolts of a bale from the top, as figures behind a 1. */
    long pile(int k) {
        long figures = 1;
        long high = call("bale", k, 0);
        for (int i = 0; i < high; i++) figures = 10 * figures + call("bale", k, 10 + i);
        return figures;
    }
}
