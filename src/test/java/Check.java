/** Counts the answers that are not the ones that are due, prints them, and ends the test with 1 if there was one. */
final class Check {
    interface Call {
        Object answer();
    }

    private static int wrong = 0;
    private static int looked = 0;

    private Check() {
    }

    static void due(String what, Object want, Call call) {
        Object got;
        try {
            got = call.answer();
        } catch (RuntimeException e) {
            got = e.getClass().getSimpleName();
        }
        same(what, want, got);
    }

    static void same(String what, Object want, Object got) {
        looked++;
        if (!want.equals(got)) {
            wrong++;
            tell(what, String.valueOf(want).split("\n"), String.valueOf(got).split("\n"));
        }
    }

    /** Of two long texts only the first lines that differ tell something. */
    private static void tell(String what, String[] want, String[] got) {
        int line = 0;
        while (line < want.length - 1 && line < got.length - 1 && want[line].equals(got[line])) {
            line++;
        }
        System.out.println(what + " answered " + got[line] + ", due is " + want[line]);
    }

    /** The call throws just this exception, and nothing that can be asked of the object has changed. */
    static void refuses(String what, CausalBroadcast x, Class<? extends RuntimeException> exception, Call call) {
        String before = Picture.of(x);
        due(what, exception.getSimpleName(), call);
        same(what + ", the state afterwards,", before, Picture.of(x));
    }

    /** The call answers a question and changes nothing. */
    static void asks(String what, CausalBroadcast x, Object want, Call call) {
        String before = Picture.of(x);
        due(what, want, call);
        same(what + ", the state afterwards,", before, Picture.of(x));
    }

    static int looked() {
        return looked;
    }

    static void end() {
        System.out.println(looked + " answers, " + wrong + " of them wrong");
        if (wrong != 0 || looked == 0) {
            System.exit(1);
        }
    }
}
