import java.lang.reflect.InvocationTargetException;
import java.lang.reflect.Method;
import java.util.ArrayList;
import java.util.HashMap;
import java.util.List;
import java.util.Map;
import java.util.Set;

/**
 * A run of calls on a new object, written in lines: "home 3 4 = 0", "9 * pass 60 = 540", "say grace 2" (feeds the
 * text, four bytes a call). The lines may be called on the program or on PlainModel.
 */
final class Script {
    /** What an object is promised for. */
    static final int MOST_CALLS = 512;
    private static final Map<String, Long> NUMBERS = Map.ofEntries(Map.entry("NONE", -1L), Map.entry("BAD", -2L),
        Map.entry("STATE", -3L), Map.entry("FULL", -4L), Map.entry("NOTHING", -11L), Map.entry("CAST", -12L),
        Map.entry("PLACE", -13L), Map.entry("SIZE", -14L), Map.entry("NO", Long.MIN_VALUE),
        Map.entry("NO1", Long.MIN_VALUE + 1), Map.entry("MAX", (long) Integer.MAX_VALUE),
        Map.entry("MIN", (long) Integer.MIN_VALUE), Map.entry("LMAX", Long.MAX_VALUE), Map.entry("LMIN", Long.MIN_VALUE));
    private static final Set<String> REFUSALS =
        Set.of("NONE", "BAD", "STATE", "FULL", "NOTHING", "CAST", "PLACE", "SIZE", "NO", "NO1");
    private static final Map<Class<?>, Map<String, Method>> METHODS = new HashMap<>();

    /** A line: a call, how often it is called, and the answer due to the last one of these. */
    record Line(String text, int times, String name, long[] given, boolean isDue, long due, boolean isRefusal) {
        int calls() {
            return name.equals("say") ? (given.length + 3) / 4 : times;
        }
    }

    final String title;
    final List<Line> lines = new ArrayList<>();

    Script(String title) {
        this.title = title;
    }

    // ---- reading

    void add(String text) {
        if (text.startsWith("say ")) {
            long[] signs = text.substring(4).chars().asLongStream().toArray();
            lines.add(new Line(text, 1, "say", signs, false, 0, false));
            return;
        }
        String[] sides = text.split(" = ");
        String call = sides[0].trim();
        int times = 1;
        if (call.contains(" * ")) {
            times = Integer.parseInt(call.substring(0, call.indexOf(" * ")).trim());
            call = call.substring(call.indexOf(" * ") + 3);
        }
        String[] words = call.trim().split(" +");
        long[] given = new long[words.length - 1];
        for (int i = 0; i < given.length; i++) given[i] = number(words[i + 1]);
        String due = sides.length > 1 ? sides[1].trim() : "";
        boolean isRefusal = REFUSALS.contains(due);
        lines.add(new Line(text, times, words[0], given, !due.isEmpty(), due.isEmpty() ? 0 : number(due), isRefusal));
    }

    /** A sum of numbers, names of numbers, and codes: #2/5/0 is the code of lamp 2 for 5 days with count 0. */
    private static long number(String word) {
        int at = Math.max(word.lastIndexOf('+'), word.lastIndexOf('-'));
        if (at > 0) {
            long left = number(word.substring(0, at)), right = number(word.substring(at + 1));
            return word.charAt(at) == '+' ? left + right : left - right;
        }
        if (word.startsWith("#")) {
            String[] parts = word.substring(1).split("/");
            long l = Long.parseLong(parts[0]), d = Long.parseLong(parts[1]), c = Long.parseLong(parts[2]);
            return (7919 * (l + 1) + 131 * d + 17 * c * c + c) % 100000;
        }
        if (word.startsWith("0x")) return (int) Long.parseLong(word.substring(2), 16);
        return NUMBERS.containsKey(word) ? NUMBERS.get(word) : Long.parseLong(word);
    }

    // ---- calling

    static long call(Object target, String name, long... given) {
        Method method = METHODS.computeIfAbsent(target.getClass(), Script::methodsOf).get(name);
        if (method == null) throw new IllegalArgumentException("no call " + name);
        Class<?>[] types = method.getParameterTypes();
        if (types.length != given.length) throw new IllegalArgumentException(name + " is given " + given.length);
        Object[] values = new Object[given.length];
        for (int i = 0; i < given.length; i++) {
            if (types[i] == long.class) values[i] = given[i];
            else values[i] = Math.toIntExact(given[i]);
        }
        try {
            return ((Number) method.invoke(target, values)).longValue();
        } catch (InvocationTargetException e) {
            throw new IllegalStateException(name + " threw", e.getCause());
        } catch (IllegalAccessException e) {
            throw new IllegalStateException(e);
        }
    }

    private static Map<String, Method> methodsOf(Class<?> type) {
        Map<String, Method> found = new HashMap<>();
        for (Method method : type.getDeclaredMethods()) {
            boolean isCall = method.getReturnType() == int.class || method.getReturnType() == long.class;
            if (isCall && !java.lang.reflect.Modifier.isPrivate(method.getModifiers())) {
                method.setAccessible(true);
                found.put(method.getName(), method);
            }
        }
        return found;
    }

    /** The answer to a line. */
    static long run(Object target, Line line) {
        long answer = 0;
        if (line.name().equals("say")) {
            for (int i = 0; i < line.given().length; i += 4) {
                int n = Math.min(4, line.given().length - i);
                int bytes = 0;
                for (int k = 0; k < n; k++) bytes = bytes << 8 | (int) line.given()[i + k];
                answer = call(target, "feed", bytes, n);
            }
            return answer;
        }
        for (int i = 0; i < line.times(); i++) answer = call(target, line.name(), line.given());
        return answer;
    }

    /** Calls the lines ahead of one, whatever they answer. */
    void runUpTo(Object target, int end) {
        for (int i = 0; i < end; i++) run(target, lines.get(i));
    }

    int callsUpTo(int end) {
        int calls = 0;
        for (int i = 0; i < end; i++) calls += lines.get(i).calls();
        return calls;
    }
}
