import java.util.NoSuchElementException;
import java.util.function.Function;
import java.util.function.Supplier;

/** A case stands for one sentence of the document that names a boundary, and for the promise where it stands. */
final class Edge {
    static final Class<IndexOutOfBoundsException> INDEX = IndexOutOfBoundsException.class;
    static final Class<IllegalStateException> STATE = IllegalStateException.class;
    static final Class<IllegalArgumentException> ARGUMENT = IllegalArgumentException.class;
    static final Class<NoSuchElementException> ELEMENT = NoSuchElementException.class;
    static final Class<ArithmeticException> ARITHMETIC = ArithmeticException.class;
    /** The first on either side, numbers whose bit would wrap around to a process, and the ends of int. */
    static final int[] NO_PROCESS = {-1, 6, 7, 31, 32, 37, -32, Integer.MIN_VALUE, Integer.MAX_VALUE};
    static final int[] PROCESSES = {0, 1, 2, 3, 4, 5};

    private static final Document DOCUMENT = Document.read();
    private static String name = "";
    private static int cases = 0;

    private Edge() {
    }

    /** Runs a case; promise 0 stands for the description, which comes before the promises. */
    static void of(int promise, String sentence, Runnable calls) {
        name = "promise " + promise + ", \"" + sentence + "\"";
        cases++;
        DOCUMENT.quote(promise, sentence);
        int before = Check.looked();
        String end = "its end";
        try {
            calls.run();
        } catch (RuntimeException e) {
            end = e + " at " + e.getStackTrace()[0];
        }
        Check.same(name + ", the case,", "its end", end);
        Check.same(name + ", the case has answers,", true, Check.looked() > before + 1);
    }

    static void due(Object want, Check.Call call) {
        Check.due(name + " at " + line() + ":", want, call);
    }

    static void same(Object want, Object got) {
        Check.same(name + " at " + line() + ":", want, got);
    }

    /** A call that throws just this exception; for calls after which not all is as before. */
    static void fails(Class<? extends RuntimeException> exception, Check.Call call) {
        due(exception.getSimpleName(), call);
    }

    /** The call is refused by a group where much has happened, and leaves all as it was. */
    static void refused(Class<? extends RuntimeException> exception, Function<CausalBroadcast, Object> call) {
        refused(exception, Scene::busy, call);
    }

    /**
     * The call throws just this exception and leaves all as it was, the input and the snapshot too, which can only be
     * seen by using them up: so a twin without the call is used up beside it.
     */
    static void refused(Class<? extends RuntimeException> exception, Supplier<CausalBroadcast> scene,
            Function<CausalBroadcast, Object> call) {
        CausalBroadcast x = scene.get();
        fails(exception, () -> call.apply(x));
        same(Picture.whole(scene.get()), Picture.whole(x));
    }

    /** The call answers a question and leaves all as it was. */
    static void asked(Object want, Supplier<CausalBroadcast> scene, Function<CausalBroadcast, Object> call) {
        CausalBroadcast x = scene.get();
        due(want, () -> call.apply(x));
        same(Picture.whole(scene.get()), Picture.whole(x));
    }

    private static String line() {
        return StackWalker.getInstance().walk(frames -> frames.filter(f -> !f.getClassName().equals("Edge"))
                .findFirst().map(f -> f.getFileName() + ":" + f.getLineNumber()).orElse("?"));
    }

    static void end() {
        DOCUMENT.checkThatAllAreQuoted();
        System.out.println(cases + " cases");
        Check.end();
    }
}
