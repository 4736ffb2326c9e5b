/** The boundaries of promises 1 to 9. */
final class ViewEdges {
    private static final int[] NO_SET = {0, 64, -1, 65, 127, -63, Integer.MIN_VALUE, Integer.MAX_VALUE};

    private ViewEdges() {
    }

    static void all() {
        Edge.of(1, "Creates a group with the members 0 and 1.", ViewEdges::aNewGroup);
        Edge.of(2, "Starts anew: there are no messages, all logs and tables are empty, all states are 0, and the view 0"
                + " has the given members.", ViewEdges::resetStartsAnew);
        Edge.of(2, "The input, the error position and the snapshot stay.", ViewEdges::resetKeepsTheRest);
        Edge.of(2, "Returns the number of messages that had been sent.", ViewEdges::resetTellsWhatWasSent);
        Edge.of(2, "members is not from 1 to 63", ViewEdges::resetTakes1To63);
        Edge.of(3, "Returns the number of the current view.", ViewEdges::viewGoesFrom0To20);
        Edge.of(4, "Returns the members of a view.", ViewEdges::membersOfEachView);
        Edge.of(4, "Returns the set of members.", ViewEdges::theLeastAndTheGreatestSet);
        Edge.of(4, "there is no such view", ViewEdges::membersOfNoView);
        Edge.of(5, "Returns the number of forced deliveries when a view was installed.", ViewEdges::forcedInEachView);
        Edge.of(5, "Returns the number, 0 for view 0.", ViewEdges::nothingIsForcedInView0);
        Edge.of(5, "there is no such view", ViewEdges::forcedInNoView);
        Edge.of(6, "Returns the proposed set.", ViewEdges::theProposedSet);
        Edge.of(6, "Returns the set of processes.", ViewEdges::theLeastAndTheGreatestProposal);
        Edge.of(7, "Adds a process to the proposed set.", ViewEdges::eachProcessJoins);
        Edge.of(7, "Returns the number of processes in the proposed set.", ViewEdges::joiningCountsTo6);
        Edge.of(7, "there is no such process", ViewEdges::noSuchProcessJoins);
        Edge.of(7, "the process is in the proposed set", ViewEdges::nobodyJoinsTwice);
        Edge.of(8, "Removes a process from the proposed set.", ViewEdges::eachProcessLeaves);
        Edge.of(8, "Returns the number of processes in the proposed set.", ViewEdges::leavingCountsTo1);
        Edge.of(8, "there is no such process", ViewEdges::noSuchProcessLeaves);
        Edge.of(8, "the process is not in the proposed set", ViewEdges::nobodyLeavesTwice);
        Edge.of(8, "no survivor would remain", ViewEdges::oneSurvivorRemains);
        Edge.of(9, "Installs the next view.", ViewEdges::theNextView);
        Edge.of(9, "Returns the number of forced deliveries.", ViewEdges::from0To750ForcedDeliveries);
        Edge.of(9, "the number of the current view is 20", ViewEdges::view20IsTheLast);
    }

    private static void aNewGroup() {
        CausalBroadcast x = new CausalBroadcast();
        Edge.due(3, () -> x.membersOf(0));
        Edge.due(3, () -> x.proposed());
        Edge.due(0, () -> x.view());
        Edge.due(0, () -> x.messageCount());
        Edge.due(0, () -> x.duplicates());
        Edge.fails(Edge.STATE, () -> x.broadcast(2, 0));
        Edge.fails(Edge.STATE, () -> x.broadcast(5, 0));
        Edge.due(0, () -> x.broadcast(0, 0));
        Edge.due(1, () -> x.broadcast(1, 0));
        Edge.fails(Edge.ELEMENT, () -> x.errorPosition());
        Edge.fails(Edge.STATE, () -> x.restoreSnapshot());
        Edge.due(1, () -> x.append('i'));
        // Objects know nothing of each other.
        Edge.due(0, () -> new CausalBroadcast().messageCount());
    }

    private static void resetStartsAnew() {
        CausalBroadcast fresh = new CausalBroadcast();
        Scene.write(fresh, "i;?");
        Edge.fails(Edge.ARGUMENT, () -> fresh.run());
        CausalBroadcast busy = Scene.busy();
        busy.reset(3);
        Edge.same(Picture.of(fresh), Picture.of(busy));
        // What happens afterwards is what happens in a new group.
        for (CausalBroadcast each : new CausalBroadcast[] {fresh, busy}) {
            Edge.due(0, () -> each.broadcast(0, 5));
            Edge.due(1, () -> each.broadcast(0, 6));
            Edge.due(0, () -> each.arrive(1, 1));
            Edge.due(2, () -> each.arriveAll(1));
            Edge.due(2, () -> each.unstable(0));
            Edge.due(1, () -> each.requestLeave(0));
        }
        Edge.same(Picture.of(fresh), Picture.of(busy));
        CausalBroadcast x = Scene.lastView();
        x.reset(6);
        Edge.due(0, () -> x.view());
        Edge.due(6, () -> x.membersOf(0));
        Edge.due(6, () -> x.proposed());
        Edge.due(0, () -> x.messageCount());
        Edge.due(0, () -> x.logLength(0));
        Edge.due(0, () -> x.state(0));
        Edge.due(0, () -> x.broadcast(1, 5));
        Edge.due(1, () -> x.message(0, 3));
        Edge.due(1, () -> x.inTransit(2));
        Edge.due(1, () -> x.arrive(2, 0));
        Edge.due(0, () -> x.duplicates());
    }

    private static void resetKeepsTheRest() {
        CausalBroadcast x = Scene.busy();
        x.reset(1);
        Edge.due(2, () -> x.errorPosition());
        // The script is b0=7;j2;i, and another event goes behind it.
        Edge.due(10, () -> x.append(';'));
        Edge.due(11, () -> x.append('i'));
        Edge.due(4, () -> x.run());
        Edge.due(5, () -> x.membersOf(2));
        Edge.due(7, () -> x.state(2));
        Edge.due(2, () -> x.restoreSnapshot());
        Edge.due(7, () -> x.membersOf(0));
        Edge.same("0 1", Scene.log(x, 0));
        CausalBroadcast y = new CausalBroadcast();
        y.reset(3);
        Edge.fails(Edge.ELEMENT, () -> y.errorPosition());
        Edge.fails(Edge.STATE, () -> y.restoreSnapshot());
        Edge.due(1, () -> y.append('i'));
    }

    private static void resetTellsWhatWasSent() {
        CausalBroadcast x = new CausalBroadcast();
        Edge.due(0, () -> x.reset(3));
        x.broadcast(0, 1);
        Edge.due(1, () -> x.reset(3));
        Edge.due(0, () -> x.reset(3));
        CausalBroadcast full = Scene.full();
        full.install();
        // The messages of all views count.
        Edge.due(150, () -> full.reset(3));
    }

    private static void resetTakes1To63() {
        for (int set : NO_SET) {
            Edge.refused(Edge.ARGUMENT, x -> x.reset(set));
        }
        for (int set : new int[] {1, 2, 32, 62, 63}) {
            CausalBroadcast x = Scene.busy();
            Edge.due(4, () -> x.reset(set));
            Edge.due(set, () -> x.membersOf(0));
        }
    }

    private static void viewGoesFrom0To20() {
        CausalBroadcast x = new CausalBroadcast();
        Edge.due(0, () -> x.view());
        for (int view = 1; view <= 20; view++) {
            x.install();
            Edge.due(view, () -> x.view());
        }
        Edge.fails(Edge.STATE, () -> x.install());
        Edge.due(20, () -> x.view());
        x.reset(3);
        Edge.due(0, () -> x.view());
        Edge.asked(1, Scene::busy, y -> y.view());
    }

    /** In view v the process v % 6 joins or leaves, but never the last member. */
    private static void membersOfEachView() {
        CausalBroadcast x = Scene.members(1);
        int[] sets = new int[21];
        sets[0] = 1;
        for (int view = 1; view <= 20; view++) {
            int process = 1 + view % 5;
            if ((sets[view - 1] >> process & 1) == 0) {
                x.requestJoin(process);
            } else {
                x.requestLeave(process);
            }
            sets[view] = sets[view - 1] ^ 1 << process;
            x.install();
        }
        for (int view = 0; view <= 20; view++) {
            int number = view;
            Edge.due(sets[view], () -> x.membersOf(number));
        }
    }

    private static void theLeastAndTheGreatestSet() {
        for (int set : new int[] {1, 63}) {
            Edge.asked(set, () -> Scene.members(set), x -> x.membersOf(0));
        }
    }

    private static void membersOfNoView() {
        for (int view : new int[] {-1, 2, 20, 21, Integer.MIN_VALUE, Integer.MAX_VALUE}) {
            Edge.refused(Edge.INDEX, x -> x.membersOf(view));
        }
        Edge.asked(7, Scene::busy, x -> x.membersOf(0));
        Edge.asked(11, Scene::busy, x -> x.membersOf(1));
        Edge.asked(3, Scene::lastView, x -> x.membersOf(20));
        Edge.refused(Edge.INDEX, Scene::lastView, x -> x.membersOf(21));
        CausalBroadcast x = Scene.busy();
        x.restoreSnapshot();
        Edge.fails(Edge.INDEX, () -> x.membersOf(1));
        CausalBroadcast y = Scene.lastView();
        y.reset(3);
        Edge.fails(Edge.INDEX, () -> y.membersOf(1));
    }

    private static void forcedInEachView() {
        CausalBroadcast x = new CausalBroadcast();
        for (int view = 1; view <= 20; view++) {
            // As many messages as the view's number in turns of three are missing at process 1.
            for (int i = 0; i < view % 3; i++) {
                x.broadcast(0, i);
            }
            x.install();
        }
        for (int view = 0; view <= 20; view++) {
            int number = view;
            Edge.due(view % 3, () -> x.forcedIn(number));
        }
        x.reset(3);
        x.install();
        // What was forced before the reset is forgotten.
        Edge.due(0, () -> x.forcedIn(1));
    }

    private static void nothingIsForcedInView0() {
        Edge.asked(0, CausalBroadcast::new, x -> x.forcedIn(0));
        Edge.asked(0, Scene::busy, x -> x.forcedIn(0));
        CausalBroadcast x = Scene.busy();
        Edge.due(1, () -> x.forcedIn(1));
        x.reset(3);
        Edge.due(0, () -> x.forcedIn(0));
        x.restoreSnapshot();
        Edge.due(0, () -> x.forcedIn(0));
    }

    private static void forcedInNoView() {
        for (int view : new int[] {-1, 2, 20, 21, Integer.MIN_VALUE, Integer.MAX_VALUE}) {
            Edge.refused(Edge.INDEX, x -> x.forcedIn(view));
        }
        Edge.asked(1, Scene::busy, x -> x.forcedIn(1));
        Edge.asked(0, Scene::lastView, x -> x.forcedIn(20));
        Edge.refused(Edge.INDEX, Scene::lastView, x -> x.forcedIn(21));
        CausalBroadcast x = Scene.busy();
        x.restoreSnapshot();
        Edge.fails(Edge.INDEX, () -> x.forcedIn(1));
    }

    private static void theProposedSet() {
        Edge.asked(3, CausalBroadcast::new, x -> x.proposed());
        Edge.asked(43, Scene::busy, x -> x.proposed());
        CausalBroadcast x = Scene.busy();
        x.install();
        Edge.due(43, () -> x.membersOf(2));
        Edge.due(43, () -> x.proposed());
    }

    private static void theLeastAndTheGreatestProposal() {
        CausalBroadcast x = new CausalBroadcast();
        x.requestLeave(1);
        Edge.due(1, () -> x.proposed());
        for (int p : new int[] {1, 2, 3, 4, 5}) {
            x.requestJoin(p);
        }
        Edge.due(63, () -> x.proposed());
    }

    private static void eachProcessJoins() {
        for (int p : Edge.PROCESSES) {
            int other = (p + 1) % 6;
            CausalBroadcast x = Scene.members(1 << other);
            Edge.due(2, () -> x.requestJoin(p));
            Edge.due((1 << other) + (1 << p), () -> x.proposed());
            // It is no member before the view is installed.
            Edge.due(1 << other, () -> x.membersOf(0));
            Edge.fails(Edge.STATE, () -> x.broadcast(p, 1));
        }
        CausalBroadcast y = new CausalBroadcast();
        y.requestLeave(0);
        // Who has asked to leave can take it back.
        Edge.due(2, () -> y.requestJoin(0));
        Edge.due(3, () -> y.proposed());
    }

    private static void joiningCountsTo6() {
        CausalBroadcast x = Scene.members(1);
        for (int p : new int[] {1, 2, 3, 4, 5}) {
            Edge.due(p + 1, () -> x.requestJoin(p));
        }
        x.requestLeave(1);
        Edge.due(6, () -> x.requestJoin(1));
    }

    private static void noSuchProcessJoins() {
        for (int p : Edge.NO_PROCESS) {
            Edge.refused(Edge.INDEX, x -> x.requestJoin(p));
        }
    }

    private static void nobodyJoinsTwice() {
        // A member that stays, one that was proposed, and all of the greatest group.
        Edge.refused(Edge.STATE, x -> x.requestJoin(0));
        Edge.refused(Edge.STATE, x -> x.requestJoin(5));
        for (int p : Edge.PROCESSES) {
            Edge.refused(Edge.STATE, () -> Scene.members(63), x -> x.requestJoin(p));
        }
        CausalBroadcast x = Scene.busy();
        Edge.due(5, () -> x.requestJoin(2));
        Edge.fails(Edge.STATE, () -> x.requestJoin(2));
        Edge.due(6, () -> x.requestJoin(4));
    }

    private static void eachProcessLeaves() {
        for (int p : Edge.PROCESSES) {
            CausalBroadcast x = Scene.members(63);
            Edge.due(5, () -> x.requestLeave(p));
            Edge.due(63 - (1 << p), () -> x.proposed());
            // It is a member until the view is installed.
            Edge.due(63, () -> x.membersOf(0));
            Edge.due(0, () -> x.broadcast(p, 1));
        }
    }

    private static void leavingCountsTo1() {
        CausalBroadcast x = Scene.members(63);
        for (int p : new int[] {0, 1, 2, 3, 4}) {
            Edge.due(5 - p, () -> x.requestLeave(p));
        }
        Edge.due(32, () -> x.proposed());
    }

    private static void noSuchProcessLeaves() {
        for (int p : Edge.NO_PROCESS) {
            Edge.refused(Edge.INDEX, x -> x.requestLeave(p));
            Edge.refused(Edge.INDEX, () -> Scene.members(63), x -> x.requestLeave(p));
        }
    }

    private static void nobodyLeavesTwice() {
        // One who has left, and one who was never there.
        Edge.refused(Edge.STATE, x -> x.requestLeave(2));
        Edge.refused(Edge.STATE, x -> x.requestLeave(4));
        CausalBroadcast x = Scene.busy();
        Edge.due(3, () -> x.requestLeave(1));
        Edge.fails(Edge.STATE, () -> x.requestLeave(1));
        Edge.due(2, () -> x.requestLeave(5));
        Edge.fails(Edge.STATE, () -> x.requestLeave(5));
    }

    private static void oneSurvivorRemains() {
        for (int p : Edge.PROCESSES) {
            Edge.refused(Edge.STATE, () -> Scene.members(1 << p), x -> x.requestLeave(p));
        }
        CausalBroadcast x = Scene.busy();
        x.requestLeave(0);
        Edge.due(2, () -> x.requestLeave(3));
        // Process 5 is proposed too, but it is no member and so no survivor.
        Edge.due(34, () -> x.proposed());
        Edge.fails(Edge.STATE, () -> x.requestLeave(1));
        Edge.due(34, () -> x.proposed());
        Edge.due(1, () -> x.requestLeave(5));
        Edge.fails(Edge.STATE, () -> x.requestLeave(1));
        Edge.due(2, () -> x.requestJoin(3));
        Edge.due(1, () -> x.requestLeave(1));
    }

    private static void theNextView() {
        CausalBroadcast x = Scene.busy();
        x.install();
        Edge.due(2, () -> x.view());
        Edge.due(43, () -> x.membersOf(2));
        Edge.due(11, () -> x.membersOf(1));
        // A view with the same members is a new one as well.
        x.install();
        Edge.due(3, () -> x.view());
        Edge.due(43, () -> x.membersOf(3));
    }

    private static void from0To750ForcedDeliveries() {
        CausalBroadcast x = new CausalBroadcast();
        Edge.due(0, () -> x.install());
        x.broadcast(0, 1);
        Edge.due(1, () -> x.install());
        Edge.due(0, () -> x.install());
        CausalBroadcast y = Scene.members(63);
        for (int i = 0; i < 150; i++) {
            y.broadcast(3, i);
        }
        Edge.due(750, () -> y.install());
        Edge.due(750, () -> y.forcedIn(1));
        for (int p : Edge.PROCESSES) {
            Edge.due(150, () -> y.logLength(p));
            Edge.due(149, () -> y.position(p, 149));
        }
    }

    private static void view20IsTheLast() {
        CausalBroadcast x = new CausalBroadcast();
        for (int view = 1; view <= 20; view++) {
            Edge.due(0, () -> x.install());
        }
        Edge.fails(Edge.STATE, () -> x.install());
        Edge.refused(Edge.STATE, Scene::lastView, y -> y.install());
        CausalBroadcast last = Scene.lastView();
        last.restoreSnapshot();
        Edge.due(0, () -> last.install());
        x.reset(3);
        Edge.due(0, () -> x.install());
        Edge.due(1, () -> x.view());
    }
}
