import java.lang.reflect.Method;
import java.util.HashMap;
import java.util.Map;

/** An object that is asked by calls as the document writes them: "face(9, 2)"; min and max are the ends of int. */
final class Probe {
    private static final int MOST_CALLS = 512;
    private static final Map<String, Method> FACE = new HashMap<>();

    static {
        for (Method m : QuernGrains.class.getDeclaredMethods()) {
            FACE.put(m.getName(), m);
        }
    }

    private final QuernGrains grains = new QuernGrains();
    private int calls = 0;

    /** A row is a call, or a text to write behind "text:"; a call may have "times n" behind it. */
    Probe after(String... rows) {
        for (String row : rows) {
            if (row.startsWith("text:")) {
                write(row.substring(5));
                continue;
            }
            String[] parts = row.split(" times ");
            int times = parts.length == 1 ? 1 : Integer.parseInt(parts[1]);
            for (int i = 0; i < times; i++) {
                ask(parts[0]);
            }
        }
        return this;
    }

    void write(String text) {
        for (int at = 0; at < text.length(); at += 8) {
            int n = Math.min(8, text.length() - at);
            long v = 0;
            for (int i = 0; i < n; i++) {
                v = v << 8 | text.charAt(at + i);
            }
            ask("write(" + n + ", " + v + ")");
        }
    }

    long ask(String call) {
        calls++;
        if (calls > MOST_CALLS) {
            throw new IllegalStateException("more calls than the document answers for: " + call);
        }
        int open = call.indexOf('(');
        String inside = call.substring(open + 1, call.length() - 1).trim();
        String[] words = inside.isEmpty() ? new String[0] : inside.split(", *");
        Method method = FACE.get(call.substring(0, open));
        Object[] arguments = new Object[words.length];
        for (int i = 0; i < words.length; i++) {
            arguments[i] = argument(method.getParameterTypes()[i], words[i]);
        }
        try {
            return ((Number) method.invoke(grains, arguments)).longValue();
        } catch (ReflectiveOperationException e) {
            throw new IllegalStateException(call, e);
        }
    }

    private static Object argument(Class<?> type, String word) {
        if (type == boolean.class) {
            return Boolean.valueOf(word);
        }
        if (type == long.class) {
            return Long.valueOf(word);
        }
        return word.equals("max") ? Integer.MAX_VALUE : word.equals("min") ? Integer.MIN_VALUE : Integer.valueOf(word);
    }
}
