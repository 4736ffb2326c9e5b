import java.lang.reflect.InvocationTargetException;
import java.lang.reflect.Method;
import java.util.HashMap;
import java.util.Map;
import java.util.Set;

/** All that can be asked of a CausalBroadcast, or of a Model, which has the same methods, as one text. */
final class Picture {
    private static final Map<String, Method> METHODS = new HashMap<>();
    private static final Set<String> DOCUMENTED = Set.of("IndexOutOfBoundsException", "IllegalStateException",
            "IllegalArgumentException", "NoSuchElementException", "ArithmeticException");
    private static final int PROCESSES = 6;

    private final Object of;
    private final StringBuilder text = new StringBuilder();

    private Picture(Object of) {
        this.of = of;
    }

    static String of(Object x) {
        Picture picture = new Picture(x);
        picture.group();
        return picture.text.toString();
    }

    /** The picture, then what the input does and what the snapshot brings back, which uses both up. */
    static String whole(Object x) {
        Picture picture = new Picture(x);
        picture.group();
        picture.put("run");
        picture.group();
        picture.put("restoreSnapshot");
        picture.group();
        return picture.text.toString();
    }

    /** Calls a method by its name; an exception is answered by the name of its class, if the document has that. */
    static Object ask(Object x, String name, Object... arguments) {
        Method method = METHODS.computeIfAbsent(x.getClass().getName() + " " + name, key -> find(x, name));
        try {
            return method.invoke(x, arguments);
        } catch (InvocationTargetException e) {
            String exception = e.getCause().getClass().getSimpleName();
            if (!DOCUMENTED.contains(exception)) {
                throw new IllegalStateException(name + " met what only the machine throws", e.getCause());
            }
            return exception;
        } catch (IllegalAccessException e) {
            throw new IllegalStateException(e);
        }
    }

    private static Method find(Object x, String name) {
        for (Method method : x.getClass().getDeclaredMethods()) {
            if (method.getName().equals(name)) {
                method.setAccessible(true);
                return method;
            }
        }
        throw new IllegalStateException("no method " + name);
    }

    private Object put(String name, Object... arguments) {
        Object answer = ask(of, name, arguments);
        text.append(name);
        for (Object argument : arguments) {
            text.append(' ').append(argument);
        }
        text.append(": ").append(answer).append('\n');
        return answer;
    }

    private void group() {
        int view = (int) put("view");
        for (int v = -1; v <= view + 1; v++) {
            put("membersOf", v);
            put("forcedIn", v);
            put("longestChain", v);
        }
        put("proposed");
        put("duplicates");
        put("errorPosition");
        int count = (int) put("messageCount");
        for (int m = -1; m <= count; m++) {
            message(m);
        }
        for (int p = -1; p <= PROCESSES; p++) {
            process(p, count);
        }
    }

    private void message(int m) {
        for (int what = 0; what < 4; what++) {
            put("message", m, what);
        }
        for (int p = 0; p < PROCESSES; p++) {
            put("messageClock", m, p);
        }
        put("causes", m);
        put("concurrent", m);
        put("isEverywhere", m);
        put("firstUnaware", m);
    }

    private void process(int p, int count) {
        Object length = put("logLength", p);
        for (int index = -1; length instanceof Integer && index <= (int) length; index++) {
            put("logged", p, index);
        }
        put("state", p);
        Object waiting = put("buffered", p);
        for (int index = -1; waiting instanceof Integer && index <= (int) waiting; index++) {
            put("bufferedMessage", p, index);
        }
        put("inTransit", p);
        put("unstable", p);
        for (int m = 0; m < count; m++) {
            put("missing", p, m);
            put("isStable", p, m);
            put("position", p, m);
        }
        for (int q = 0; q < PROCESSES; q++) {
            put("clock", p, q);
            put("disagreements", p, q);
            put("overlap", p, q);
            for (int s = 0; s < PROCESSES; s++) {
                put("known", p, q, s);
            }
        }
    }
}
