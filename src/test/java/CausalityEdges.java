/** The description's sentences about causality, knowledge and view changes. */
final class CausalityEdges {
    private CausalityEdges() {
    }

    static void all() {
        Edge.of(0, "if the entry of the other message's clock for its sender is at least its sequence number",
                CausalityEdges::causesReachTheSequenceNumber);
        Edge.of(0, "Two different messages of the same view are concurrent if neither is a cause of the other one.",
                CausalityEdges::concurrentIfNeitherIsACause);
        Edge.of(0, "Messages of different views are neither causes of each other nor concurrent.",
                CausalityEdges::viewsPartMessages);
        Edge.of(0, "Each member has a table with a number for each two processes q and s",
                CausalityEdges::tablesHaveAllPairs);
        Edge.of(0, "All numbers are 0 when a view has been installed.", CausalityEdges::tablesBeginWith0);
        Edge.of(0, "The member's own line, q being the member itself, always equals its clock.",
                CausalityEdges::theOwnLineIsTheClock);
        Edge.of(0, "When a member delivers a message of another member q, each number in its line for q becomes",
                CausalityEdges::deliveriesTellOfTheSender);
        Edge.of(0, "becomes the entry of the message's clock if that is greater",
                CausalityEdges::knownNumbersNeverSink);
        Edge.of(0, "is stable for it if it was not sent in the current view", CausalityEdges::earlierViewsAreStable);
        Edge.of(0, "if the number for q and the sender is at least the sequence number for every member q",
                CausalityEdges::stableIfAllMembersReachIt);
        Edge.of(0, "The survivors are the members that are in the proposed set.",
                CausalityEdges::survivorsAreMembersThatStay);
        Edge.of(0, "delivers the messages of the current view that are in the log of at least one survivor",
                CausalityEdges::onlyASurvivorsLogForces);
        Edge.of(0, "but not in its own log, one after the other", CausalityEdges::forcedOnlyIfNotInTheOwnLog);
        Edge.of(0, "always the one with the lowest number among those that are deliverable",
                CausalityEdges::forcedInAscendingOrder);
        Edge.of(0, "Then all buffers become empty", CausalityEdges::buffersBecomeEmpty);
        Edge.of(0, "each process that is in the proposed set but not a member gets a copy of the log and the state",
                CausalityEdges::newMembersGetACopy);
        Edge.of(0, "of the survivor with the lowest number", CausalityEdges::theLowestSurvivorIsCopied);
        Edge.of(0, "Then the proposed set becomes the current view.", CausalityEdges::theProposedSetIsInstalled);
        Edge.of(0, "The messages of earlier views cannot arrive any more.", CausalityEdges::earlierViewsAreOver);
        Edge.of(0, "A process that is not a member keeps its log and state.", CausalityEdges::whoLeavesKeepsTheLog);
    }

    /** Process 0 sends 0, 1 and 2; process 1 gets 0 and 1 of them and sends 3. */
    private static CausalBroadcast answered() {
        CausalBroadcast x = new CausalBroadcast();
        x.broadcast(0, 1);
        x.broadcast(0, 2);
        x.broadcast(0, 3);
        x.arrive(1, 0);
        x.arrive(1, 1);
        x.broadcast(1, 4);
        return x;
    }

    private static void causesReachTheSequenceNumber() {
        CausalBroadcast x = answered();
        Edge.due(2, () -> x.messageClock(3, 0));
        // The entry 2 is above the sequence number 1, equal to 2 and below 3.
        Edge.due(true, () -> x.isCause(0, 3));
        Edge.due(true, () -> x.isCause(1, 3));
        Edge.due(false, () -> x.isCause(2, 3));
        Edge.due(false, () -> x.isCause(3, 0));
        Edge.due(false, () -> x.isCause(3, 2));
        Edge.due(true, () -> x.isCause(0, 2));
        Edge.due(false, () -> x.isCause(2, 0));
    }

    private static void concurrentIfNeitherIsACause() {
        CausalBroadcast x = answered();
        int[] due = {0, 0, 1, 1};
        for (int m : new int[] {0, 1, 2, 3}) {
            Edge.due(due[m], () -> x.concurrent(m));
        }
        // A message alone is not concurrent with itself.
        CausalBroadcast y = new CausalBroadcast();
        y.broadcast(0, 1);
        Edge.due(0, () -> y.concurrent(0));
    }

    private static void viewsPartMessages() {
        CausalBroadcast x = new CausalBroadcast();
        x.broadcast(0, 1);
        x.install();
        x.broadcast(0, 2);
        x.broadcast(1, 3);
        // The clock of 1 has 1 for process 0, the sequence number of 0, but the view is another one.
        Edge.due(false, () -> x.isCause(0, 1));
        Edge.due(false, () -> x.isCause(1, 0));
        Edge.due(0, () -> x.causes(1));
        Edge.due(0, () -> x.concurrent(0));
        Edge.due(1, () -> x.concurrent(1));
        Edge.due(1, () -> x.longestChain(1));
    }

    private static void tablesHaveAllPairs() {
        CausalBroadcast x = Scene.members(33);
        x.broadcast(5, 1);
        x.arrive(0, 0);
        String[] lines = {"0 0 0 0 0 1", "0 0 0 0 0 0", "0 0 0 0 0 0", "0 0 0 0 0 0", "0 0 0 0 0 0", "0 0 0 0 0 1"};
        for (int q : Edge.PROCESSES) {
            Edge.same(lines[q], Scene.line(x, 0, q));
        }
    }

    private static void tablesBeginWith0() {
        CausalBroadcast x = new CausalBroadcast();
        checkEmptyTables(x, 0, 1);
        x.broadcast(0, 1);
        x.arrive(1, 0);
        x.broadcast(1, 2);
        x.arrive(0, 1);
        x.gossip(0, 1);
        Edge.same("1 1 0 0 0 0", Scene.line(x, 1, 0));
        x.requestJoin(5);
        x.install();
        checkEmptyTables(x, 0, 1, 5);
        x.broadcast(5, 1);
        x.arriveAll(0);
        x.reset(7);
        checkEmptyTables(x, 0, 1, 2);
    }

    private static void checkEmptyTables(CausalBroadcast x, int... members) {
        for (int p : members) {
            for (int q : Edge.PROCESSES) {
                Edge.same("0 0 0 0 0 0", Scene.line(x, p, q));
            }
        }
    }

    private static void theOwnLineIsTheClock() {
        CausalBroadcast x = Scene.members(35);
        x.broadcast(5, 1);
        Edge.same("0 0 0 0 0 1", Scene.line(x, 5, 5));
        x.broadcast(5, 2);
        x.arrive(0, 1);
        Edge.same("0 0 0 0 0 0", Scene.line(x, 0, 0));
        x.arrive(0, 0);
        Edge.same("0 0 0 0 0 2", Scene.line(x, 0, 0));
        x.gossip(0, 1);
        Edge.same("0 0 0 0 0 0", Scene.line(x, 1, 1));
        x.arriveAll(1);
        Edge.same("0 0 0 0 0 2", Scene.line(x, 1, 1));
        x.gossip(1, 5);
        Edge.same("0 0 0 0 0 2", Scene.line(x, 5, 5));
        for (int p : new int[] {0, 1, 5}) {
            Edge.same(Scene.clock(x, p), Scene.line(x, p, p));
        }
    }

    private static void deliveriesTellOfTheSender() {
        CausalBroadcast x = Scene.members(7);
        x.broadcast(0, 1);
        x.arrive(1, 0);
        x.broadcast(1, 2);
        x.arrive(2, 1);
        // It waits, and what waits tells nothing.
        Edge.same("0 0 0 0 0 0", Scene.line(x, 2, 1));
        x.arrive(2, 0);
        Edge.same("1 0 0 0 0 0", Scene.line(x, 2, 0));
        Edge.same("1 1 0 0 0 0", Scene.line(x, 2, 1));
        // Process 0 gets 1, which tells of process 1 alone; its own message has told it of nobody else.
        Edge.same("0 0 0 0 0 0", Scene.line(x, 0, 1));
        x.arrive(0, 1);
        Edge.same("1 1 0 0 0 0", Scene.line(x, 0, 1));
        Edge.same("0 0 0 0 0 0", Scene.line(x, 0, 2));
    }

    private static void knownNumbersNeverSink() {
        CausalBroadcast x = Scene.members(7);
        x.broadcast(1, 1);
        x.broadcast(1, 2);
        x.broadcast(0, 3);
        x.arrive(1, 2);
        x.gossip(1, 2);
        Edge.same("1 2 0 0 0 0", Scene.line(x, 2, 1));
        x.arrive(2, 0);
        // The clock of 0 has 0 and 1, which are not greater.
        Edge.same("1 2 0 0 0 0", Scene.line(x, 2, 1));
        x.arrive(2, 1);
        Edge.same("1 2 0 0 0 0", Scene.line(x, 2, 1));
        x.broadcast(1, 4);
        x.arriveAll(2);
        Edge.same("1 3 0 0 0 0", Scene.line(x, 2, 1));
    }

    private static void earlierViewsAreStable() {
        CausalBroadcast x = new CausalBroadcast();
        x.broadcast(0, 1);
        Edge.due(false, () -> x.isStable(0, 0));
        x.install();
        Edge.due(true, () -> x.isStable(0, 0));
        Edge.due(true, () -> x.isStable(1, 0));
        Edge.due(0, () -> x.unstable(0));
        x.broadcast(0, 2);
        Edge.due(true, () -> x.isStable(0, 0));
        Edge.due(false, () -> x.isStable(0, 1));
        Edge.due(1, () -> x.unstable(0));
    }

    private static void stableIfAllMembersReachIt() {
        CausalBroadcast x = Scene.members(35);
        x.broadcast(0, 1);
        x.broadcast(0, 2);
        x.arrive(1, 0);
        x.arrive(5, 0);
        x.gossip(1, 0);
        Edge.due(false, () -> x.isStable(0, 0));
        x.gossip(5, 0);
        // The numbers for 1 and 5 are 1: enough for the first message, one below the second one.
        Edge.due(true, () -> x.isStable(0, 0));
        Edge.due(false, () -> x.isStable(0, 1));
        x.arrive(1, 1);
        x.gossip(1, 0);
        Edge.due(false, () -> x.isStable(0, 1));
        x.arrive(5, 1);
        x.gossip(5, 0);
        Edge.due(true, () -> x.isStable(0, 1));
        // At the others the lines for those of whom nothing was heard are still missing.
        Edge.due(false, () -> x.isStable(1, 0));
        onlyMembersAreWaitedFor();
    }

    private static void onlyMembersAreWaitedFor() {
        CausalBroadcast x = Scene.members(7);
        x.requestLeave(2);
        x.broadcast(0, 1);
        x.arrive(1, 0);
        x.gossip(1, 0);
        // Process 2 is still a member.
        Edge.due(false, () -> x.isStable(0, 0));
        x.install();
        x.broadcast(0, 2);
        x.arrive(1, 1);
        x.gossip(1, 0);
        Edge.due(true, () -> x.isStable(0, 1));
    }

    private static void survivorsAreMembersThatStay() {
        CausalBroadcast x = Scene.members(7);
        x.requestLeave(0);
        x.requestJoin(5);
        x.broadcast(0, 1);
        x.broadcast(1, 2);
        x.broadcast(2, 3);
        Edge.due(2, () -> x.install());
        Edge.same("0", Scene.log(x, 0));
        Edge.same("1 2", Scene.log(x, 1));
        Edge.same("2 1", Scene.log(x, 2));
        Edge.same("1 2", Scene.log(x, 5));
    }

    private static void onlyASurvivorsLogForces() {
        CausalBroadcast x = Scene.members(15);
        x.broadcast(0, 1);
        x.broadcast(0, 2);
        x.broadcast(0, 3);
        x.arrive(1, 0);
        x.arrive(1, 2);
        x.arrive(2, 1);
        x.arrive(2, 2);
        x.requestLeave(0);
        // Message 0 is in the log of process 1; 1 and 2 are in survivors' buffers and in the log of one who leaves.
        Edge.due(2, () -> x.install());
        for (int p : new int[] {1, 2, 3}) {
            Edge.same("0", Scene.log(x, p));
            Edge.due(1, () -> x.state(p));
        }
        Edge.same("0 1 2", Scene.log(x, 0));
        // Messages of earlier views are not forced, though the logs differ in them.
        x.requestJoin(0);
        Edge.due(0, () -> x.install());
    }

    private static void forcedOnlyIfNotInTheOwnLog() {
        CausalBroadcast x = Scene.members(7);
        x.broadcast(0, 1);
        x.broadcast(1, 2);
        x.arriveAll(0);
        x.arriveAll(1);
        Edge.due(2, () -> x.install());
        Edge.same("0 1", Scene.log(x, 0));
        Edge.same("1 0", Scene.log(x, 1));
        Edge.same("0 1", Scene.log(x, 2));
        Edge.due(0, () -> x.install());
        Edge.same("0 1", Scene.log(x, 2));
    }

    private static void forcedInAscendingOrder() {
        CausalBroadcast x = Scene.members(7);
        x.broadcast(2, 1);
        x.broadcast(1, 2);
        x.arrive(1, 0);
        x.broadcast(1, 3);
        x.broadcast(2, 4);
        x.arrive(0, 1);
        // A buffered message is forced like the others.
        x.arrive(0, 3);
        Edge.same("3", Scene.buffer(x, 0));
        Edge.due(3 + 1 + 2, () -> x.install());
        Edge.same("1 0 2 3", Scene.log(x, 0));
        Edge.same("1 0 2 3", Scene.log(x, 1));
        Edge.same("0 3 1 2", Scene.log(x, 2));
        Edge.due(((2 * 31 + 1) * 31 + 3) * 31 + 4, () -> x.state(0));
    }

    private static void buffersBecomeEmpty() {
        CausalBroadcast x = Scene.members(7);
        x.broadcast(0, 1);
        x.broadcast(0, 2);
        x.arrive(1, 1);
        x.arrive(2, 1);
        x.requestLeave(0);
        Edge.same("1", Scene.buffer(x, 1));
        Edge.due(0, () -> x.install());
        Edge.same("", Scene.buffer(x, 1));
        Edge.same("", Scene.buffer(x, 2));
        // They fill and empty again in the new view.
        x.broadcast(1, 3);
        x.broadcast(1, 4);
        x.arrive(2, 3);
        Edge.same("3", Scene.buffer(x, 2));
        Edge.due(2, () -> x.arrive(2, 2));
        Edge.same("2 3", Scene.log(x, 2));
    }

    private static void newMembersGetACopy() {
        CausalBroadcast x = new CausalBroadcast();
        x.broadcast(0, 7);
        x.broadcast(1, 8);
        x.requestJoin(4);
        x.requestJoin(5);
        x.install();
        for (int p : new int[] {4, 5}) {
            // The copy is made after the forced deliveries.
            Edge.same("0 1", Scene.log(x, p));
            Edge.due(7 * 31 + 8, () -> x.state(p));
            Edge.due(1, () -> x.position(p, 1));
        }
        x.broadcast(0, 9);
        Edge.same("0 1", Scene.log(x, 4));
        x.broadcast(5, 1);
        Edge.same("0 1 3", Scene.log(x, 5));
        Edge.same("0 1 2", Scene.log(x, 0));
        rejoiningReplacesTheLog();
    }

    private static void rejoiningReplacesTheLog() {
        CausalBroadcast x = new CausalBroadcast();
        x.broadcast(0, 4);
        x.requestLeave(0);
        x.install();
        x.broadcast(1, 6);
        x.requestJoin(0);
        x.install();
        Edge.same("1", Scene.log(x, 0));
        Edge.due(6, () -> x.state(0));
        Edge.fails(Edge.ELEMENT, () -> x.position(0, 0));
    }

    private static void theLowestSurvivorIsCopied() {
        // The logs of 2 and 3 differ; 1 leaves and 0 joins, so that 2 is the lowest survivor.
        CausalBroadcast x = Scene.members(14);
        x.broadcast(3, 1);
        x.broadcast(2, 2);
        x.requestLeave(1);
        x.requestJoin(0);
        x.requestJoin(5);
        x.install();
        Edge.same("1 0", Scene.log(x, 0));
        Edge.same("1 0", Scene.log(x, 5));
        Edge.same("0 1", Scene.log(x, 3));
        Edge.due(2 * 31 + 1, () -> x.state(0));
        for (int p : new int[] {0, 5}) {
            // The first and the last process can be the lowest survivor.
            CausalBroadcast y = Scene.members(1 << p);
            y.broadcast(p, 9);
            y.requestJoin(2);
            y.install();
            Edge.same("0", Scene.log(y, 2));
            Edge.due(9, () -> y.state(2));
        }
    }

    private static void theProposedSetIsInstalled() {
        CausalBroadcast x = new CausalBroadcast();
        for (int p : new int[] {2, 3, 4, 5}) {
            x.requestJoin(p);
        }
        x.install();
        Edge.due(63, () -> x.membersOf(1));
        for (int p : new int[] {0, 1, 2, 3, 4}) {
            x.requestLeave(p);
        }
        x.install();
        Edge.due(32, () -> x.membersOf(2));
        Edge.due(32, () -> x.proposed());
        Edge.due(2, () -> x.view());
    }

    private static void earlierViewsAreOver() {
        CausalBroadcast x = Scene.members(7);
        x.broadcast(0, 1);
        x.requestLeave(0);
        x.install();
        x.broadcast(1, 2);
        Edge.fails(Edge.STATE, () -> x.arrive(1, 0));
        Edge.fails(Edge.STATE, () -> x.arrive(2, 0));
        Edge.due(1, () -> x.inTransit(2));
        Edge.due(1, () -> x.arriveAll(2));
        Edge.same("1", Scene.log(x, 2));
        Edge.due(0, () -> x.duplicates());
    }

    private static void whoLeavesKeepsTheLog() {
        CausalBroadcast x = Scene.members(7);
        x.broadcast(0, 4);
        x.broadcast(1, 5);
        x.requestLeave(0);
        x.install();
        Edge.same("0", Scene.log(x, 0));
        Edge.due(4, () -> x.state(0));
        x.broadcast(1, 6);
        x.install();
        Edge.same("0", Scene.log(x, 0));
        Edge.due(4, () -> x.state(0));
        Edge.due(0, () -> x.state(3));
    }
}
