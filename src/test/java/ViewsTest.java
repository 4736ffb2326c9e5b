/** Promises 1 to 9: a new object, reset, view, membersOf, forcedIn, proposed, requestJoin, requestLeave, install. */
public final class ViewsTest {
    private static final Class<IndexOutOfBoundsException> INDEX = IndexOutOfBoundsException.class;
    private static final Class<IllegalArgumentException> ARGUMENT = IllegalArgumentException.class;
    private static final Class<IllegalStateException> STATE = IllegalStateException.class;

    public static void main(String[] args) {
        newObject();
        reset();
        resetKeepsInputErrorAndSnapshot();
        viewQuestions();
        requestJoin();
        requestLeave();
        installForces();
        installLosesWhatNoSurvivorHas();
        installEmptiesBuffers();
        installTransfersState();
        theLastProcessTransfersState();
        rejoiningReplacesTheLog();
        installHasAnEnd();
        Check.end();
    }

    private static void newObject() {
        CausalBroadcast x = new CausalBroadcast();
        Check.asks("1 view()", x, 0, () -> x.view());
        Check.asks("1 membersOf(0)", x, 3, () -> x.membersOf(0));
        Check.asks("1 proposed()", x, 3, () -> x.proposed());
        Check.asks("1 messageCount()", x, 0, () -> x.messageCount());
        Check.asks("1 duplicates()", x, 0, () -> x.duplicates());
        for (int p = 0; p < 6; p++) {
            int process = p;
            Check.asks("1 logLength", x, 0, () -> x.logLength(process));
            Check.asks("1 state", x, 0, () -> x.state(process));
            Check.asks("1 buffered", x, process < 2 ? 0 : "IllegalStateException", () -> x.buffered(process));
        }
        Check.refuses("1 errorPosition()", x, java.util.NoSuchElementException.class, () -> x.errorPosition());
        Check.refuses("1 restoreSnapshot()", x, STATE, () -> x.restoreSnapshot());
        Check.due("1 append", 1, () -> x.append('i'));
    }

    private static void reset() {
        CausalBroadcast x = new CausalBroadcast();
        String fresh = Picture.of(x);
        for (int wrong : new int[] {0, -1, 64, 65, Integer.MIN_VALUE, Integer.MAX_VALUE}) {
            Check.refuses("2 reset(" + wrong + ")", x, ARGUMENT, () -> x.reset(wrong));
        }
        x.broadcast(0, 5);
        x.broadcast(1, 6);
        x.arrive(0, 1);
        x.arrive(0, 1);
        x.gossip(0, 1);
        x.requestJoin(4);
        x.install();
        x.broadcast(4, 1);
        x.broadcast(4, 2);
        x.arrive(0, 3);
        x.broadcast(0, 3);
        x.arrive(1, 4);
        x.broadcast(1, 4);
        x.arrive(0, 5);
        x.gossip(0, 1);
        x.requestLeave(1);
        Check.refuses("2 reset(64)", x, ARGUMENT, () -> x.reset(64));
        Check.due("2 reset(3)", 6, () -> x.reset(3));
        Check.same("2 after reset(3) all", fresh, Picture.of(x));
        Check.due("2 reset(3)", 0, () -> x.reset(3));
        Check.due("2 reset(63)", 0, () -> x.reset(63));
        Check.due("2 membersOf(0)", 63, () -> x.membersOf(0));
        Check.due("2 proposed()", 63, () -> x.proposed());
        Check.due("2 reset(1)", 0, () -> x.reset(1));
        Check.due("2 membersOf(0)", 1, () -> x.membersOf(0));
        for (int i = 0; i < 150; i++) {
            x.broadcast(0, i);
        }
        Check.due("2 reset(32)", 150, () -> x.reset(32));
        Check.due("2 broadcast after reset", 0, () -> x.broadcast(5, 9));
        Check.due("2 state after reset", 9, () -> x.state(5));
        Check.due("2 state after reset", 0, () -> x.state(0));
    }

    private static void resetKeepsInputErrorAndSnapshot() {
        CausalBroadcast x = new CausalBroadcast();
        x.append('i');
        x.append('x');
        Check.due("2 run", "IllegalArgumentException", () -> x.run());
        x.broadcast(0, 8);
        x.saveSnapshot();
        x.append('b');
        x.append('2');
        Check.due("2 reset(4)", 1, () -> x.reset(4));
        Check.due("2 errorPosition()", 1, () -> x.errorPosition());
        Check.due("2 append", 3, () -> x.append('='));
        x.append('7');
        Check.due("2 run", 1, () -> x.run());
        Check.due("2 state(2)", 7, () -> x.state(2));
        Check.due("2 restoreSnapshot()", 1, () -> x.restoreSnapshot());
        Check.due("2 state(0)", 8, () -> x.state(0));
        Check.due("2 membersOf(0)", 3, () -> x.membersOf(0));
    }

    private static void viewQuestions() {
        CausalBroadcast x = new CausalBroadcast();
        x.requestJoin(5);
        x.broadcast(0, 1);
        x.install();
        x.requestLeave(0);
        x.install();
        Check.asks("3 view()", x, 2, () -> x.view());
        int[] members = {3, 35, 34};
        int[] forced = {0, 1, 0};
        for (int v = 0; v < 3; v++) {
            int view = v;
            Check.asks("4 membersOf", x, members[v], () -> x.membersOf(view));
            Check.asks("5 forcedIn", x, forced[v], () -> x.forcedIn(view));
        }
        for (int wrong : new int[] {-1, 3, 20, 21, Integer.MIN_VALUE, Integer.MAX_VALUE}) {
            Check.refuses("4 membersOf(" + wrong + ")", x, INDEX, () -> x.membersOf(wrong));
            Check.refuses("5 forcedIn(" + wrong + ")", x, INDEX, () -> x.forcedIn(wrong));
        }
        x.reset(3);
        Check.refuses("4 membersOf(1) after reset", x, INDEX, () -> x.membersOf(1));
        Check.refuses("5 forcedIn(1) after reset", x, INDEX, () -> x.forcedIn(1));
    }

    private static void requestJoin() {
        CausalBroadcast x = new CausalBroadcast();
        Check.due("7 requestJoin(5)", 3, () -> x.requestJoin(5));
        Check.due("6 proposed()", 35, () -> x.proposed());
        Check.due("7 membersOf(0)", 3, () -> x.membersOf(0));
        Check.refuses("7 requestJoin(5) again", x, STATE, () -> x.requestJoin(5));
        Check.refuses("7 requestJoin(0)", x, STATE, () -> x.requestJoin(0));
        for (int wrong : new int[] {-1, 6, 32, Integer.MIN_VALUE, Integer.MAX_VALUE}) {
            Check.refuses("7 requestJoin(" + wrong + ")", x, INDEX, () -> x.requestJoin(wrong));
        }
        Check.due("7 requestLeave(0)", 2, () -> x.requestLeave(0));
        Check.due("7 requestJoin(0) back", 3, () -> x.requestJoin(0));
        Check.due("6 proposed()", 35, () -> x.proposed());
    }

    private static void requestLeave() {
        CausalBroadcast x = new CausalBroadcast();
        for (int wrong : new int[] {-1, 6, 32, Integer.MIN_VALUE, Integer.MAX_VALUE}) {
            Check.refuses("8 requestLeave(" + wrong + ")", x, INDEX, () -> x.requestLeave(wrong));
        }
        Check.refuses("8 requestLeave(2), not proposed", x, STATE, () -> x.requestLeave(2));
        x.requestJoin(2);
        Check.due("8 requestLeave(0)", 2, () -> x.requestLeave(0));
        Check.refuses("8 requestLeave(0) again", x, STATE, () -> x.requestLeave(0));
        Check.due("6 proposed()", 6, () -> x.proposed());
        // 2 is proposed, but it is no survivor.
        Check.refuses("8 requestLeave(1), no survivor", x, STATE, () -> x.requestLeave(1));
        Check.due("8 requestLeave(2)", 1, () -> x.requestLeave(2));
        Check.refuses("8 requestLeave(1), the last", x, STATE, () -> x.requestLeave(1));
        Check.due("8 install", 0, () -> x.install());
        Check.due("8 membersOf(1)", 2, () -> x.membersOf(1));
    }

    private static void installForces() {
        CausalBroadcast x = new CausalBroadcast();
        x.reset(15);
        x.broadcast(0, 1);
        x.broadcast(1, 2);
        x.arrive(1, 0);
        x.broadcast(1, 3);
        x.broadcast(2, 4);
        x.requestLeave(3);
        Check.due("9 install()", 3 + 1 + 3, () -> x.install());
        Check.due("5 forcedIn(1)", 7, () -> x.forcedIn(1));
        int[][] logs = {{0, 1, 2, 3}, {1, 0, 2, 3}, {3, 0, 1, 2}, {}};
        for (int p = 0; p < 4; p++) {
            int process = p;
            Check.due("9 logLength(" + p + ")", logs[p].length, () -> x.logLength(process));
            for (int i = 0; i < logs[p].length; i++) {
                int index = i;
                Check.due("9 logged(" + p + ", " + i + ")", logs[p][i], () -> x.logged(process, index));
            }
        }
        Check.due("9 state(0)", ((31 + 2) * 31 + 3) * 31 + 4, () -> x.state(0));
        Check.due("9 state(1)", ((2 * 31 + 1) * 31 + 3) * 31 + 4, () -> x.state(1));
        Check.due("9 state(2)", ((4 * 31 + 1) * 31 + 2) * 31 + 3, () -> x.state(2));
        Check.due("9 state(3)", 0, () -> x.state(3));
        Check.due("9 view()", 1, () -> x.view());
        Check.due("9 proposed()", 7, () -> x.proposed());
        for (int q = 0; q < 6; q++) {
            for (int s = 0; s < 6; s++) {
                int of = q;
                int sender = s;
                Check.due("9 known(0, q, s)", 0, () -> x.known(0, of, sender));
            }
        }
        Check.due("9 clock(1, 1)", 0, () -> x.clock(1, 1));
        Check.due("9 install() again", 0, () -> x.install());
    }

    private static void installLosesWhatNoSurvivorHas() {
        CausalBroadcast x = new CausalBroadcast();
        x.reset(7);
        x.broadcast(0, 1);
        x.broadcast(0, 2);
        x.arrive(1, 0);
        x.requestLeave(0);
        Check.due("9 install()", 1, () -> x.install());
        Check.due("9 logLength(2)", 1, () -> x.logLength(2));
        Check.due("9 logLength(1)", 1, () -> x.logLength(1));
        Check.due("9 logLength(0), left", 2, () -> x.logLength(0));
        Check.due("9 state(0), left", 33, () -> x.state(0));
        Check.refuses("9 arrive(1, 1), of an earlier view", x, STATE, () -> x.arrive(1, 1));
        Check.due("9 arriveAll(1)", 0, () -> x.arriveAll(1));
        Check.due("9 inTransit(1)", 0, () -> x.inTransit(1));
    }

    private static void installEmptiesBuffers() {
        CausalBroadcast x = new CausalBroadcast();
        x.reset(7);
        x.broadcast(0, 1);
        x.broadcast(0, 2);
        x.arrive(1, 1);
        Check.due("9 buffered(1)", 1, () -> x.buffered(1));
        x.requestLeave(0);
        Check.due("9 install()", 0, () -> x.install());
        Check.due("9 buffered(1) afterwards", 0, () -> x.buffered(1));
        Check.due("9 logLength(1)", 0, () -> x.logLength(1));
        Check.due("9 broadcast(1, 3)", 2, () -> x.broadcast(1, 3));
        Check.due("9 message(2, 3)", 1, () -> x.message(2, 3));
        Check.due("9 arriveAll(2)", 1, () -> x.arriveAll(2));
    }

    private static void installTransfersState() {
        CausalBroadcast x = new CausalBroadcast();
        x.reset(14);
        x.broadcast(3, 7);
        x.broadcast(2, 8);
        x.requestLeave(1);
        x.requestJoin(0);
        x.requestJoin(5);
        Check.due("9 install()", 2, () -> x.install());
        // The survivor with the lowest number is 2, though a lower number joins.
        for (int p : new int[] {0, 5, 2}) {
            Check.due("9 logged(" + p + ", 0)", 1, () -> x.logged(p, 0));
            Check.due("9 logged(" + p + ", 1)", 0, () -> x.logged(p, 1));
            Check.due("9 state(" + p + ")", 8 * 31 + 7, () -> x.state(p));
        }
        Check.due("9 state(3)", 7 * 31 + 8, () -> x.state(3));
        Check.due("9 logLength(1)", 0, () -> x.logLength(1));
        Check.due("9 membersOf(1)", 45, () -> x.membersOf(1));
        Check.due("9 isStable(5, 0)", true, () -> x.isStable(5, 0));
        x.broadcast(2, 1);
        Check.due("9 logLength(0), a copy", 2, () -> x.logLength(0));
    }

    private static void theLastProcessTransfersState() {
        CausalBroadcast x = new CausalBroadcast();
        x.reset(48);
        x.broadcast(4, 1);
        x.broadcast(5, 2);
        x.requestLeave(4);
        x.requestJoin(0);
        Check.due("9 install()", 0, () -> x.install());
        Check.due("9 logLength(0)", 1, () -> x.logLength(0));
        Check.due("9 logged(0, 0)", 1, () -> x.logged(0, 0));
        Check.due("9 state(0)", 2, () -> x.state(0));
    }

    private static void rejoiningReplacesTheLog() {
        CausalBroadcast x = new CausalBroadcast();
        x.broadcast(0, 4);
        x.broadcast(0, 5);
        x.requestLeave(0);
        Check.due("9 install()", 0, () -> x.install());
        x.broadcast(1, 6);
        Check.due("9 logLength(0), away", 2, () -> x.logLength(0));
        x.requestJoin(0);
        Check.due("9 install()", 0, () -> x.install());
        Check.due("9 logLength(0), back", 1, () -> x.logLength(0));
        Check.due("9 logged(0, 0)", 2, () -> x.logged(0, 0));
        Check.due("9 state(0)", 6, () -> x.state(0));
        Check.due("9 position(0, 0)", "NoSuchElementException", () -> x.position(0, 0));
        Check.due("9 broadcast(0, 7)", 3, () -> x.broadcast(0, 7));
        Check.due("9 message(3, 3)", 1, () -> x.message(3, 3));
    }

    private static void installHasAnEnd() {
        CausalBroadcast x = new CausalBroadcast();
        for (int view = 1; view <= 20; view++) {
            Check.due("9 install()", 0, () -> x.install());
            Check.due("3 view()", view, () -> x.view());
        }
        x.broadcast(0, 1);
        Check.refuses("9 install() in view 20", x, STATE, () -> x.install());
        Check.due("4 membersOf(20)", 3, () -> x.membersOf(20));
        Check.refuses("4 membersOf(21)", x, INDEX, () -> x.membersOf(21));
        Check.due("9 requestJoin(2)", 3, () -> x.requestJoin(2));
        Check.refuses("9 install() in view 20", x, STATE, () -> x.install());
        x.reset(3);
        Check.due("9 install() after reset", 0, () -> x.install());
    }
}
