import java.lang.reflect.Constructor;
import java.lang.reflect.Field;
import java.lang.reflect.Method;
import java.lang.reflect.Modifier;
import java.util.TreeSet;

/** The class has the document's face and no other member that can be seen from outside (LANGUAGE.md, rule 1). */
public final class FaceTest {
    private static final String I = "IndexOutOfBoundsException";
    private static final String S = "IllegalStateException";
    private static final String A = "IllegalArgumentException";
    private static final String N = "NoSuchElementException";
    private static final String IS = I + " " + S;
    private static final String[] FACE = {
        "int reset(int) " + A, "int view()", "int membersOf(int) " + I, "int forcedIn(int) " + I, "int proposed()",
        "int requestJoin(int) " + IS, "int requestLeave(int) " + IS, "int install() " + S,
        "int broadcast(int int) " + IS, "int arrive(int int) " + IS, "int arriveAll(int) " + IS,
        "int gossip(int int) " + IS, "int messageCount()", "int message(int int) " + I + " " + A,
        "int messageClock(int int) " + I, "boolean isCause(int int) " + I, "int causes(int) " + I,
        "int concurrent(int) " + I, "int longestChain(int) " + I, "int duplicates()", "int logLength(int) " + I,
        "int logged(int int) " + I, "int position(int int) " + I + " " + N, "int state(int) " + I,
        "int clock(int int) " + IS, "int buffered(int) " + IS, "int bufferedMessage(int int) " + IS + " " + N,
        "int missing(int int) " + IS, "int inTransit(int) " + IS, "int disagreements(int int) " + I,
        "double overlap(int int) " + I + " ArithmeticException", "int known(int int int) " + IS,
        "boolean isStable(int int) " + IS + " " + N, "int unstable(int) " + IS, "boolean isEverywhere(int) " + I,
        "int firstUnaware(int) " + I + " " + N, "int append(char) " + A + " " + S, "int run() " + A + " " + S,
        "int errorPosition() " + N, "int saveSnapshot()", "int restoreSnapshot() " + S};

    public static void main(String[] args) {
        Class<?> type = CausalBroadcast.class;
        Check.same("the class, public and final,", Modifier.PUBLIC | Modifier.FINAL, type.getModifiers());
        TreeSet<String> due = new TreeSet<>(java.util.List.of(FACE));
        Check.same("the number of methods", 41, due.size());
        TreeSet<String> found = new TreeSet<>();
        for (Method method : type.getDeclaredMethods()) {
            if (Modifier.isPrivate(method.getModifiers())) {
                Check.same(method + " under a public name", false, bears(due, method.getName()));
            } else {
                found.add(faceOf(method));
            }
        }
        Check.same("the face", due, found);
        for (Field field : type.getDeclaredFields()) {
            Check.same(field + " private", true, Modifier.isPrivate(field.getModifiers()));
        }
        Constructor<?>[] constructors = type.getDeclaredConstructors();
        Check.same("the constructors", 1, constructors.length);
        Check.same("the constructor", "public CausalBroadcast()", constructors[0].toString());
        Check.end();
    }

    private static boolean bears(TreeSet<String> face, String name) {
        return face.stream().anyMatch(line -> line.contains(" " + name + "("));
    }

    private static String faceOf(Method method) {
        boolean plain = method.getModifiers() == Modifier.PUBLIC;
        StringBuilder face = new StringBuilder(plain ? "" : Modifier.toString(method.getModifiers()) + " ");
        face.append(method.getReturnType().getSimpleName()).append(' ').append(method.getName()).append('(');
        for (int i = 0; i < method.getParameterCount(); i++) {
            face.append(i == 0 ? "" : " ").append(method.getParameterTypes()[i].getSimpleName());
        }
        face.append(')');
        for (Class<?> exception : method.getExceptionTypes()) {
            face.append(' ').append(exception.getSimpleName());
        }
        return face.toString();
    }
}
