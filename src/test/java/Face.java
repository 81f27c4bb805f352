import java.lang.reflect.InvocationTargetException;
import java.lang.reflect.Method;
import java.util.HashMap;
import java.util.List;
import java.util.Map;

/** One wall, called by names and arguments that are told as text; it counts its calls. */
final class Face {
    /** After so many calls what a wall answers is free. */
    static final int MOST_CALLS = 512;
    private static final Map<String, Method> METHODS = methods();
    private static final Map<String, Long> WORDS = words();

    private final ReservoirWall wall = new ReservoirWall();
    private int calls;

    private static Map<String, Method> methods() {
        Map<String, Method> byName = new HashMap<>();
        for (Method method : ReservoirWall.class.getMethods()) {
            if (method.getDeclaringClass() == ReservoirWall.class) byName.put(method.getName(), method);
        }
        return byName;
    }

    private static Map<String, Long> words() {
        Map<String, Long> words = new HashMap<>();
        words.put("NONE", -1L);
        words.put("UNKNOWN", -2000000001L);
        words.put("OUTSIDE", -2000000002L);
        words.put("STATE", -2000000003L);
        words.put("FULL", -2000000004L);
        String[] failures = {"NULL", "INDEX", "SIZE", "CAST", "STORE", "ARITHMETIC", "HELD", "WORD"};
        for (int i = 0; i < failures.length; i++) words.put(failures[i], -2000000011L - i);
        String[] ops = {"PUT", "TAKE", "FAIL", "HOLD", "TURN", "SIGNAL", "DO", "TRY", "ANSWER", "SUM"};
        for (int i = 0; i < ops.length; i++) words.put(ops[i], (long) i);
        words.put("LEAST", (long) Integer.MIN_VALUE);
        words.put("MOST", (long) Integer.MAX_VALUE);
        words.put("LEASTLONG", Long.MIN_VALUE);
        words.put("MOSTLONG", Long.MAX_VALUE);
        words.put("NAN", 0x7FF8000000000000L);
        words.put("INF", Double.doubleToLongBits(Double.POSITIVE_INFINITY));
        words.put("-INF", Double.doubleToLongBits(Double.NEGATIVE_INFINITY));
        return words;
    }

    static boolean has(String name) {
        return METHODS.containsKey(name);
    }

    static int parameters(String name) {
        return METHODS.get(name).getParameterCount();
    }

    /** A number: a word of the document, a real (its bits) where it has a point, else a whole. */
    static long number(String text) {
        if (WORDS.containsKey(text)) return WORDS.get(text);
        if (text.startsWith("0x")) return Long.parseUnsignedLong(text.substring(2), 16);
        if (text.contains(".")) return Double.doubleToRawLongBits(Double.parseDouble(text));
        return Long.parseLong(text);
    }

    static boolean isReal(String text) {
        return text.contains(".") || text.equals("NAN") || text.endsWith("INF");
    }

    int calls() {
        return calls;
    }

    long call(String name, List<String> args) {
        Method method = METHODS.get(name);
        Class<?>[] types = method.getParameterTypes();
        Object[] values = new Object[types.length];
        for (int i = 0; i < types.length; i++) {
            String text = args.get(i);
            if (types[i] == boolean.class) values[i] = text.equals("true");
            else if (types[i] == int.class) values[i] = Math.toIntExact(number(text));
            else values[i] = number(text);
        }
        calls++;
        try {
            return ((Number) method.invoke(wall, values)).longValue();
        } catch (IllegalAccessException | InvocationTargetException e) {
            throw new IllegalStateException(name + args + " threw " + e.getCause(), e);
        }
    }

    long call(String name, long... args) {
        String[] texts = new String[args.length];
        for (int i = 0; i < args.length; i++) texts[i] = Long.toString(args[i]);
        return call(name, List.of(texts));
    }
}
