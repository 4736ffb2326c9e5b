/** Promises 41 and 42: saveSnapshot and restoreSnapshot. */
public final class SnapshotTest {
    public static void main(String[] args) {
        restoresAll();
        keepsTheSnapshot();
        replacesTheSnapshot();
        leavesTheInput();
        Check.end();
    }

    private static CausalBroadcast busy() {
        CausalBroadcast x = new CausalBroadcast();
        x.reset(7);
        x.broadcast(0, 1);
        x.broadcast(1, 2);
        x.arriveAll(0);
        x.requestJoin(3);
        x.requestLeave(2);
        x.install();
        x.broadcast(3, 4);
        x.broadcast(3, 5);
        x.arrive(0, 3);
        x.arrive(1, 2);
        x.arrive(1, 2);
        x.gossip(1, 0);
        x.requestJoin(5);
        return x;
    }

    private static void change(CausalBroadcast x) {
        x.broadcast(0, 9);
        x.arriveAll(0);
        x.arriveAll(1);
        x.arrive(1, 3);
        x.gossip(0, 1);
        x.requestLeave(1);
        x.install();
        x.broadcast(5, 8);
        x.requestJoin(1);
    }

    private static void restoresAll() {
        CausalBroadcast x = busy();
        Check.refuses("42 restoreSnapshot(), none", x, IllegalStateException.class, () -> x.restoreSnapshot());
        Check.asks("41 saveSnapshot()", x, 4, () -> x.saveSnapshot());
        String saved = Picture.of(x);
        change(x);
        Check.due("42 restoreSnapshot()", 4, () -> x.restoreSnapshot());
        Check.same("42 all after restoring", saved, Picture.of(x));
        x.reset(32);
        Check.due("42 restoreSnapshot() after reset", 4, () -> x.restoreSnapshot());
        Check.same("42 all after restoring from a reset", saved, Picture.of(x));
        // What follows from the saved state follows from the restored one too.
        CausalBroadcast y = busy();
        change(x);
        change(y);
        Check.same("42 what follows", Picture.of(y), Picture.of(x));
    }

    private static void keepsTheSnapshot() {
        CausalBroadcast x = busy();
        x.saveSnapshot();
        String saved = Picture.of(x);
        for (int i = 0; i < 3; i++) {
            change(x);
            Check.due("42 restoreSnapshot()", 4, () -> x.restoreSnapshot());
            Check.same("42 all after restoring again", saved, Picture.of(x));
        }
        for (char c : "i;b5=1;j4;i".toCharArray()) {
            x.append(c);
        }
        Check.due("39 run()", 4, () -> x.run());
        Check.due("42 restoreSnapshot() after run", 4, () -> x.restoreSnapshot());
        Check.same("42 all after restoring from a run", saved, Picture.of(x));
    }

    private static void replacesTheSnapshot() {
        CausalBroadcast x = new CausalBroadcast();
        Check.asks("41 saveSnapshot()", x, 0, () -> x.saveSnapshot());
        x.broadcast(0, 1);
        Check.asks("41 saveSnapshot()", x, 1, () -> x.saveSnapshot());
        x.broadcast(0, 2);
        Check.due("42 restoreSnapshot()", 1, () -> x.restoreSnapshot());
        Check.due("42 messageCount()", 1, () -> x.messageCount());
        Check.due("42 broadcast(1, 3)", 1, () -> x.broadcast(1, 3));
        Check.due("42 state(0)", 1, () -> x.state(0));
    }

    private static void leavesTheInput() {
        CausalBroadcast x = new CausalBroadcast();
        x.append('b');
        x.saveSnapshot();
        x.append('0');
        x.append('=');
        x.restoreSnapshot();
        Check.due("42 append after restoring", 4, () -> x.append('4'));
        Check.due("39 run()", 1, () -> x.run());
        Check.due("39 state(0)", 4, () -> x.state(0));
        x.restoreSnapshot();
        Check.due("42 append after restoring", 1, () -> x.append('i'));
    }
}
