import java.util.function.Consumer;

/** The boundaries of promises 41 and 42. */
final class SnapshotEdges {
    private SnapshotEdges() {
    }

    static void all() {
        Edge.of(41, "Saves the views, the proposed set, the messages, and all about the processes and duplicates.",
                SnapshotEdges::allOfTheGroupIsSaved);
        Edge.of(41, "An earlier snapshot is replaced.", SnapshotEdges::theLastSnapshotCounts);
        Edge.of(41, "Returns the number of messages.", SnapshotEdges::from0To150Saved);
        Edge.of(42, "Restores what was saved.", SnapshotEdges::whatWasSavedComesBack);
        Edge.of(42, "The snapshot is kept.", SnapshotEdges::restoredAgainAndAgain);
        Edge.of(42, "Returns the number of messages.", SnapshotEdges::from0To150Restored);
        Edge.of(42, "no snapshot was saved", SnapshotEdges::noSnapshotWasSaved);
    }

    /** Each of the changes alone is undone, whatever part of the group it touches. */
    private static void allOfTheGroupIsSaved() {
        comesBackAfter(x -> x.reset(63));
        comesBackAfter(x -> x.requestJoin(2));
        comesBackAfter(x -> x.requestLeave(1));
        comesBackAfter(x -> x.install());
        comesBackAfter(x -> x.broadcast(0, 9));
        comesBackAfter(x -> x.arrive(0, 2));
        comesBackAfter(x -> x.arrive(1, 2));
        comesBackAfter(x -> x.arriveAll(1));
        comesBackAfter(x -> x.gossip(3, 1));
        comesBackAfter(x -> x.run());
        // Saving changes nothing itself.
        CausalBroadcast x = Scene.busy();
        String before = Picture.of(x);
        x.saveSnapshot();
        Edge.same(before, Picture.of(x));
    }

    private static void comesBackAfter(Consumer<CausalBroadcast> change) {
        CausalBroadcast x = Scene.busy();
        Edge.due(4, () -> x.saveSnapshot());
        String saved = Picture.of(x);
        change.accept(x);
        Edge.same(false, saved.equals(Picture.of(x)));
        Edge.due(4, () -> x.restoreSnapshot());
        Edge.same(saved, Picture.of(x));
    }

    private static void theLastSnapshotCounts() {
        CausalBroadcast x = Scene.busy();
        // The busy group has a snapshot with two messages.
        Edge.due(4, () -> x.saveSnapshot());
        String saved = Picture.of(x);
        x.reset(1);
        Edge.due(4, () -> x.restoreSnapshot());
        Edge.same(saved, Picture.of(x));
        x.reset(32);
        Edge.due(0, () -> x.saveSnapshot());
        x.broadcast(5, 1);
        Edge.due(0, () -> x.restoreSnapshot());
        Edge.due(32, () -> x.membersOf(0));
        Edge.due(0, () -> x.view());
    }

    private static void from0To150Saved() {
        CausalBroadcast x = new CausalBroadcast();
        Edge.due(0, () -> x.saveSnapshot());
        x.broadcast(0, 1);
        Edge.due(1, () -> x.saveSnapshot());
        Edge.due(1, () -> x.saveSnapshot());
        CausalBroadcast full = Scene.full();
        Edge.due(150, () -> full.saveSnapshot());
        full.install();
        Edge.due(150, () -> full.saveSnapshot());
    }

    private static void whatWasSavedComesBack() {
        CausalBroadcast x = Scene.busy();
        CausalBroadcast y = Scene.busy();
        x.saveSnapshot();
        x.arriveAll(0);
        x.install();
        x.restoreSnapshot();
        // What happens afterwards is what would have happened.
        for (CausalBroadcast each : new CausalBroadcast[] {x, y}) {
            Edge.due(2, () -> each.arrive(0, 2));
            Edge.due(4, () -> each.broadcast(0, 6));
            Edge.due(2, () -> each.message(2, 3) + each.message(4, 3));
            Edge.due(0, () -> each.arrive(1, 4));
            Edge.due(4, () -> each.install() + each.forcedIn(1));
        }
        Edge.same(Picture.of(y), Picture.of(x));
        // The input and the error position are no part of it.
        CausalBroadcast z = Scene.busy();
        z.restoreSnapshot();
        Edge.due(2, () -> z.errorPosition());
        Edge.due(10, () -> z.append(';'));
        Edge.fails(Edge.ARGUMENT, () -> z.run());
        z.restoreSnapshot();
        Edge.due(10, () -> z.errorPosition());
        Edge.due(1, () -> z.append('i'));
    }

    private static void restoredAgainAndAgain() {
        CausalBroadcast x = Scene.busy();
        x.restoreSnapshot();
        String saved = Picture.of(x);
        for (int turn = 0; turn < 3; turn++) {
            x.broadcast(2, turn);
            x.arriveAll(0);
            x.requestLeave(0);
            x.install();
            Edge.due(2, () -> x.restoreSnapshot());
            Edge.same(saved, Picture.of(x));
        }
        Edge.due(2, () -> x.restoreSnapshot());
        x.reset(63);
        Edge.due(2, () -> x.restoreSnapshot());
        Edge.same(saved, Picture.of(x));
        // A script, good or failing, leaves the snapshot alone.
        Edge.fails(Edge.STATE, () -> x.run());
        Edge.due(2, () -> x.restoreSnapshot());
        Edge.same(saved, Picture.of(x));
        Scene.write(x, "b1=1;l0;i");
        Edge.due(3, () -> x.run());
        Edge.due(2, () -> x.restoreSnapshot());
        Edge.same(saved, Picture.of(x));
    }

    private static void from0To150Restored() {
        CausalBroadcast x = Scene.oneSender();
        x.saveSnapshot();
        x.reset(3);
        Edge.due(150, () -> x.restoreSnapshot());
        Edge.due(150, () -> x.messageCount());
        Edge.due(149, () -> x.position(0, 149));
        Edge.fails(Edge.STATE, () -> x.broadcast(0, 1));
        x.reset(3);
        x.saveSnapshot();
        x.broadcast(0, 1);
        Edge.due(0, () -> x.restoreSnapshot());
        Edge.due(0, () -> x.messageCount());
    }

    private static void noSnapshotWasSaved() {
        Edge.refused(Edge.STATE, CausalBroadcast::new, x -> x.restoreSnapshot());
        Edge.refused(Edge.STATE, Scene::oneSender, x -> x.restoreSnapshot());
        CausalBroadcast x = new CausalBroadcast();
        x.reset(3);
        Scene.write(x, "b0=1");
        x.run();
        Edge.fails(Edge.STATE, () -> x.restoreSnapshot());
        Edge.due(1, () -> x.messageCount());
        x.saveSnapshot();
        Edge.due(1, () -> x.restoreSnapshot());
    }
}
