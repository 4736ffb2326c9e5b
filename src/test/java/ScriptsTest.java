import java.util.NoSuchElementException;

/** Promises 38 to 40: append, run and errorPosition. */
public final class ScriptsTest {
    public static void main(String[] args) {
        append();
        events();
        eventsDoNothingElse();
        numbers();
        failingEvents();
        failureUndoesAll();
        errorPositions();
        longScripts();
        errorPositionIsKept();
        Check.end();
    }

    private static void write(CausalBroadcast x, String text) {
        for (int i = 0; i < text.length(); i++) {
            x.append(text.charAt(i));
        }
    }

    private static void append() {
        CausalBroadcast x = new CausalBroadcast();
        for (int wrong : new int[] {0, 10, 31, 127, 128, 255, 65535}) {
            Check.refuses("38 append(" + wrong + ")", x, IllegalArgumentException.class,
                    () -> x.append((char) wrong));
        }
        for (int i = 1; i <= 60; i++) {
            int length = i;
            Check.due("38 append", length, () -> x.append(length % 2 == 0 ? ' ' : '~'));
        }
        Check.refuses("38 the 61st append", x, IllegalStateException.class, () -> x.append('i'));
        Check.refuses("38 append(31), full", x, IllegalArgumentException.class, () -> x.append((char) 31));
        Check.due("39 run()", "IllegalArgumentException", () -> x.run());
        Check.due("40 errorPosition()", 0, () -> x.errorPosition());
        Check.due("38 append to the emptied input", 1, () -> x.append('i'));
    }

    private static void events() {
        CausalBroadcast x = new CausalBroadcast();
        write(x, "b0=5;b0=-6;a1,1;a1,0;g1,0;j3;l1;i;b3=7");
        Check.due("39 run()", 9, () -> x.run());
        Check.due("39 view()", 1, () -> x.view());
        Check.due("39 membersOf(1)", 9, () -> x.membersOf(1));
        Check.due("39 messageCount()", 3, () -> x.messageCount());
        Check.due("39 state(1)", 5 * 31 - 6, () -> x.state(1));
        Check.due("39 state(3)", (5 * 31 - 6) * 31 + 7, () -> x.state(3));
        Check.due("39 forcedIn(1)", 0, () -> x.forcedIn(1));
        write(x, "a0,2");
        Check.due("39 run()", 1, () -> x.run());
        Check.due("39 logLength(0)", 3, () -> x.logLength(0));
        write(x, "g3,0");
        Check.due("39 run()", 1, () -> x.run());
        Check.due("39 known(0, 3, 3)", 1, () -> x.known(0, 3, 3));
        write(x, "b0=1;a3,3;g3,0;j5");
        Check.due("39 run()", 4, () -> x.run());
        Check.due("39 known(0, 3, 0), by gossip", 1, () -> x.known(0, 3, 0));
        Check.due("39 proposed()", 41, () -> x.proposed());
        write(x, "b0=1;a3,4;l5");
        Check.due("39 run()", 3, () -> x.run());
        Check.due("39 known(0, 3, 0), no gossip", 1, () -> x.known(0, 3, 0));
        Check.due("39 view()", 1, () -> x.view());
        write(x, "a0,2;a0,02;a0,002");
        Check.due("39 run()", 3, () -> x.run());
        Check.due("39 duplicates()", 3, () -> x.duplicates());
        Check.due("38 append to the emptied input", 1, () -> x.append('i'));
    }

    private static void eventsDoNothingElse() {
        CausalBroadcast x = new CausalBroadcast();
        write(x, "b0=5;a1,0;l0;g0,1");
        Check.due("39 run()", 4, () -> x.run());
        Check.due("39 known(0, 1, 0), no gossip", 0, () -> x.known(0, 1, 0));
        Check.due("39 proposed(), no join", 2, () -> x.proposed());
        write(x, "j0;j3");
        Check.due("39 run()", 2, () -> x.run());
        Check.due("39 proposed(), no leave", 11, () -> x.proposed());
        Check.due("39 view(), no install", 0, () -> x.view());
    }

    private static void numbers() {
        CausalBroadcast x = new CausalBroadcast();
        String[] texts = {"0", "-0", "9", "-9", "12", "-12", "999", "-999", "007", "-007"};
        for (String text : texts) {
            write(x, "b1=" + text);
            Check.due("39 run() of b1=" + text, 1, () -> x.run());
            Check.due("39 payload " + text, Integer.parseInt(text), () -> x.message(x.messageCount() - 1, 1));
        }
    }

    private static void failingEvents() {
        String[] scripts = {"b2=1", "a0,1", "a5,0", "a0,999", "g0,0", "g0,2", "g2,0", "j0", "l5", "l0;l1", "j3;j3",
            "i;a1,0", "b5=1", "l0;i;b0=1"};
        for (String script : scripts) {
            CausalBroadcast x = new CausalBroadcast();
            x.broadcast(0, 3);
            write(x, script);
            Check.refuses("39 run() of " + script, x, IllegalStateException.class, () -> x.run());
            Check.due("39 append after " + script, 1, () -> x.append('i'));
            Check.due("39 run() after " + script, 1, () -> x.run());
        }
    }

    private static void failureUndoesAll() {
        CausalBroadcast x = new CausalBroadcast();
        x.broadcast(0, 3);
        x.requestJoin(4);
        write(x, "b0=1;a1,1;a1,0;a1,0;g1,0;l0;i;b4=9;l4;j5;b3=1");
        Check.refuses("39 run()", x, IllegalStateException.class, () -> x.run());
        Check.due("39 arrive(1, 0)", 1, () -> x.arrive(1, 0));
        Check.due("39 broadcast(1, 1)", 1, () -> x.broadcast(1, 1));
        for (int view = 0; view < 19; view++) {
            x.install();
        }
        write(x, "i;i");
        Check.refuses("39 run() to view 21", x, IllegalStateException.class, () -> x.run());
        write(x, "i");
        Check.due("39 run() to view 20", 1, () -> x.run());
        for (int sent = 2; sent < 149; sent++) {
            x.broadcast(0, sent);
        }
        write(x, "b0=1;b0=1");
        Check.refuses("39 run() to 151 messages", x, IllegalStateException.class, () -> x.run());
        Check.due("39 messageCount()", 149, () -> x.messageCount());
        write(x, "b0=1");
        Check.due("39 run() to 150 messages", 1, () -> x.run());
    }

    private static void errorPositions() {
        Object[][] due = {
            {"", 0}, {"x", 0}, {"5", 0}, {";", 0}, {" i", 0}, {"I", 0}, {"ii", 1}, {"i ", 1}, {"i;", 2}, {"i;;", 2},
            {"b", 1}, {"b6", 1}, {"b-", 1}, {"b0", 2}, {"b00", 2}, {"b0,", 2}, {"b0=", 3}, {"b0=-", 4},
            {"b0=--1", 4}, {"b0=;", 3}, {"b0=-;", 4}, {"b0=1-", 4}, {"b0=1234", 6}, {"b0=-1234", 7}, {"b0=+1", 3},
            {"b0=123,", 6}, {"a", 1}, {"a6,0", 1}, {"a0", 2}, {"a0=", 2}, {"a0,", 3}, {"a0,-1", 3}, {"a0,1234", 6},
            {"a0,;", 3}, {"g", 1}, {"g0", 2}, {"g0,", 3}, {"g0,6", 3}, {"g0,00", 4}, {"g7", 1}, {"j", 1}, {"j6", 1},
            {"j00", 2}, {"j0;", 3}, {"l", 1}, {"l6", 1}, {"l0,", 2}, {"l0;x", 3}, {"i0", 1}, {"b0=1;a0,0;q", 10},
            {"b0=1;a0,0;", 10}, {"b0=1 ;i", 4}, {"b9", 1}, {"b:", 1}, {"b/", 1}, {"a0,:", 3}, {"a0,/", 3}};
        for (Object[] row : due) {
            CausalBroadcast x = new CausalBroadcast();
            x.broadcast(0, 1);
            write(x, (String) row[0]);
            Check.due("39 run() of " + row[0], "IllegalArgumentException", () -> x.run());
            Check.asks("40 errorPosition() of " + row[0], x, row[1], () -> x.errorPosition());
            Check.due("39 append after " + row[0], 1, () -> x.append('i'));
            Check.due("14 messageCount() after " + row[0], 1, () -> x.messageCount());
        }
    }

    private static void longScripts() {
        CausalBroadcast x = new CausalBroadcast();
        write(x, "j5;l5;".repeat(9) + "b0=123");
        Check.due("39 run() of 60 characters", 19, () -> x.run());
        Check.due("39 proposed()", 3, () -> x.proposed());
        Check.due("39 state(0)", 123, () -> x.state(0));
        x.reset(3);
        write(x, "i;".repeat(19) + "i");
        Check.due("39 run() of 20 installs", 20, () -> x.run());
        x.reset(3);
        write(x, "i;".repeat(29) + "i");
        Check.refuses("39 run() of 30 installs", x, IllegalStateException.class, () -> x.run());
        write(x, "i;".repeat(30));
        Check.due("39 run() of 60 characters", "IllegalArgumentException", () -> x.run());
        Check.due("40 errorPosition()", 60, () -> x.errorPosition());
        write(x, "b0=1;".repeat(11) + "b0=12");
        Check.due("39 run() of 12 broadcasts", 12, () -> x.run());
        Check.due("14 messageCount()", 12, () -> x.messageCount());
    }

    private static void errorPositionIsKept() {
        CausalBroadcast x = new CausalBroadcast();
        Check.refuses("40 errorPosition(), none kept", x, NoSuchElementException.class, () -> x.errorPosition());
        write(x, "i");
        x.run();
        Check.refuses("40 errorPosition(), no error", x, NoSuchElementException.class, () -> x.errorPosition());
        write(x, "j0");
        Check.due("39 run() of j0", "IllegalStateException", () -> x.run());
        Check.refuses("40 errorPosition(), a script", x, NoSuchElementException.class, () -> x.errorPosition());
        x.saveSnapshot();
        write(x, "b0");
        Check.due("39 run() of b0", "IllegalArgumentException", () -> x.run());
        write(x, "i;j0");
        Check.due("39 run() of i;j0", "IllegalStateException", () -> x.run());
        write(x, "i");
        x.run();
        Check.asks("40 errorPosition(), the last", x, 2, () -> x.errorPosition());
        x.restoreSnapshot();
        Check.asks("40 errorPosition() after restoring", x, 2, () -> x.errorPosition());
        Check.due("39 run() of nothing", "IllegalArgumentException", () -> x.run());
        Check.asks("40 errorPosition(), 0", x, 0, () -> x.errorPosition());
    }
}
