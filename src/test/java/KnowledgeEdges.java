/** The boundaries of promises 33 to 37. */
final class KnowledgeEdges {
    /** Wrong in the busy group, which has four messages. */
    private static final int[] NO_MESSAGE = {-1, 4, 149, 150, Integer.MIN_VALUE, Integer.MAX_VALUE};
    /** In the busy group: one who has left, one who was never there, one who is only proposed. */
    private static final int[] NO_MEMBER = {2, 4, 5};

    private KnowledgeEdges() {
    }

    static void all() {
        Edge.of(33, "Returns a number in the table of a member.", KnowledgeEdges::numbersFrom0To150);
        Edge.of(33, "there is no such process", KnowledgeEdges::noSuchProcessKnows);
        Edge.of(33, "the process is not a member", KnowledgeEdges::onlyMembersKnow);
        Edge.of(34, "Returns whether a message in the log of a member is stable for it.",
                KnowledgeEdges::stableFromTheLastNumberOn);
        Edge.of(34, "Returns true if it is.", KnowledgeEdges::stableForOneAndNotForAnother);
        Edge.of(34, "there is no such process or message", KnowledgeEdges::nothingSuchIsStable);
        Edge.of(34, "the process is not a member", KnowledgeEdges::stableForMembersAlone);
        Edge.of(34, "the message is not in the log of the member", KnowledgeEdges::onlyLoggedMessagesAreStable);
        Edge.of(35, "Returns how many messages in the log of a member are not stable for it.",
                KnowledgeEdges::from0To150Unstable);
        Edge.of(35, "there is no such process", KnowledgeEdges::unstableForNoProcess);
        Edge.of(35, "the process is not a member", KnowledgeEdges::unstableForMembersAlone);
        Edge.of(36, "Returns whether a message is in the logs of all members.", KnowledgeEdges::inTheLogsOfAll);
        Edge.of(36, "Returns true if it is.", KnowledgeEdges::onlyMembersNeedIt);
        Edge.of(36, "there is no such message", KnowledgeEdges::noSuchMessageIsEverywhere);
        Edge.of(37, "Returns the first member for which the table does not yet show that a message is stable although"
                + " it is in the logs of all members.", KnowledgeEdges::theFirstOfTheUnaware);
        Edge.of(37, "Returns the number of the process.", KnowledgeEdges::eachProcessCanBeUnaware);
        Edge.of(37, "there is no such message", KnowledgeEdges::nobodyIsUnawareOfNothing);
        Edge.of(37, "the message is not in the logs of all members", KnowledgeEdges::notYetInTheLogsOfAll);
        Edge.of(37, "it is stable for all members", KnowledgeEdges::allAreAware);
    }

    /** The members 0 and 5; process 5 has sent messages and process 0 has delivered them. */
    private static CausalBroadcast pair(int messages) {
        CausalBroadcast x = Scene.members(33);
        for (int i = 0; i < messages; i++) {
            x.broadcast(5, i);
        }
        x.arriveAll(0);
        return x;
    }

    private static void numbersFrom0To150() {
        Edge.asked(0, () -> pair(0), x -> x.known(0, 5, 5));
        Edge.asked(150, () -> pair(150), x -> x.known(0, 5, 5));
        Edge.asked(150, () -> pair(150), x -> x.known(5, 5, 5));
        Edge.asked(150, () -> pair(150), x -> x.known(0, 0, 5));
        Edge.asked(0, () -> pair(150), x -> x.known(5, 0, 5));
        // In the busy group process 1 has told process 0 what it has and what it knows of 3.
        int[][] due = {{0, 0, 0}, {0, 1, 0}, {0, 0, 0}, {0, 1, 0}, {0, 0, 0}, {0, 0, 0}};
        for (int of : Edge.PROCESSES) {
            for (int sender : new int[] {2, 3, 4}) {
                Edge.asked(due[of][sender - 2], Scene::busy, x -> x.known(0, of, sender));
            }
        }
    }

    private static void noSuchProcessKnows() {
        for (int p : Edge.NO_PROCESS) {
            Edge.refused(Edge.INDEX, x -> x.known(p, 0, 0));
            Edge.refused(Edge.INDEX, x -> x.known(0, p, 0));
            Edge.refused(Edge.INDEX, x -> x.known(0, 0, p));
            Edge.refused(Edge.INDEX, x -> x.known(2, p, 0));
            Edge.refused(Edge.INDEX, x -> x.known(2, 0, p));
        }
        Edge.due(0, () -> pair(1).known(5, 0, 5));
        Edge.due(0, () -> pair(1).known(0, 5, 0));
        Edge.due(1, () -> pair(1).known(0, 5, 5));
    }

    private static void onlyMembersKnow() {
        for (int p : NO_MEMBER) {
            Edge.refused(Edge.STATE, x -> x.known(p, 0, 0));
            Edge.refused(Edge.STATE, x -> x.known(p, p, p));
            // A member can be asked about the others.
            Edge.asked(0, Scene::busy, x -> x.known(1, p, 0));
            Edge.asked(0, Scene::busy, x -> x.known(1, 0, p));
        }
    }

    private static void stableFromTheLastNumberOn() {
        CausalBroadcast x = Scene.members(7);
        x.broadcast(0, 1);
        Edge.due(false, () -> x.isStable(0, 0));
        x.arrive(1, 0);
        x.gossip(1, 0);
        Edge.due(false, () -> x.isStable(0, 0));
        x.arrive(2, 0);
        Edge.due(false, () -> x.isStable(0, 0));
        x.gossip(2, 0);
        Edge.due(true, () -> x.isStable(0, 0));
        x.broadcast(0, 2);
        Edge.due(true, () -> x.isStable(0, 0));
        Edge.due(false, () -> x.isStable(0, 1));
        Edge.asked(true, Scene::busy, y -> y.isStable(0, 0));
        Edge.asked(true, Scene::busy, y -> y.isStable(3, 1));
        Edge.asked(false, Scene::busy, y -> y.isStable(3, 2));
    }

    private static void stableForOneAndNotForAnother() {
        Edge.asked(true, () -> pair(150), x -> x.isStable(0, 149));
        Edge.asked(false, () -> pair(150), x -> x.isStable(5, 149));
        Edge.asked(false, () -> pair(150), x -> x.isStable(5, 0));
        CausalBroadcast x = pair(2);
        x.gossip(0, 5);
        Edge.due(true, () -> x.isStable(5, 0));
        Edge.due(true, () -> x.isStable(5, 1));
        // Who is alone knows at once.
        CausalBroadcast alone = Scene.members(4);
        alone.broadcast(2, 1);
        Edge.due(true, () -> alone.isStable(2, 0));
    }

    private static void nothingSuchIsStable() {
        for (int p : Edge.NO_PROCESS) {
            Edge.refused(Edge.INDEX, x -> x.isStable(p, 0));
            Edge.refused(Edge.INDEX, x -> x.isStable(p, 3));
        }
        for (int m : NO_MESSAGE) {
            Edge.refused(Edge.INDEX, x -> x.isStable(0, m));
            Edge.refused(Edge.INDEX, x -> x.isStable(2, m));
        }
        Edge.refused(Edge.INDEX, CausalBroadcast::new, x -> x.isStable(0, 0));
        Edge.refused(Edge.INDEX, Scene::full, x -> x.isStable(0, 150));
    }

    private static void stableForMembersAlone() {
        for (int p : NO_MEMBER) {
            Edge.refused(Edge.STATE, x -> x.isStable(p, 0));
            Edge.refused(Edge.STATE, x -> x.isStable(p, 3));
        }
        CausalBroadcast x = Scene.busy();
        x.requestLeave(0);
        x.install();
        // It has the message still, but it is no member.
        Edge.due(0, () -> x.position(0, 0));
        Edge.fails(Edge.STATE, () -> x.isStable(0, 0));
    }

    private static void onlyLoggedMessagesAreStable() {
        // In the buffer, in transit, and lost in an earlier view.
        Edge.refused(Edge.ELEMENT, x -> x.isStable(0, 3));
        Edge.refused(Edge.ELEMENT, x -> x.isStable(0, 2));
        Edge.refused(Edge.ELEMENT, x -> x.isStable(1, 3));
        CausalBroadcast x = new CausalBroadcast();
        x.broadcast(0, 1);
        x.requestLeave(0);
        x.install();
        Edge.fails(Edge.ELEMENT, () -> x.isStable(1, 0));
    }

    private static void from0To150Unstable() {
        int[] due = {0, 1, -1, 2};
        for (int p : new int[] {0, 1, 3}) {
            Edge.asked(due[p], Scene::busy, x -> x.unstable(p));
        }
        Edge.asked(0, () -> pair(0), x -> x.unstable(5));
        Edge.asked(150, () -> pair(150), x -> x.unstable(5));
        Edge.asked(0, () -> pair(150), x -> x.unstable(0));
        CausalBroadcast x = pair(149);
        x.gossip(0, 5);
        Edge.due(0, () -> x.unstable(5));
        x.broadcast(5, 1);
        Edge.due(1, () -> x.unstable(5));
        x.install();
        Edge.due(0, () -> x.unstable(5));
    }

    private static void unstableForNoProcess() {
        for (int p : Edge.NO_PROCESS) {
            Edge.refused(Edge.INDEX, x -> x.unstable(p));
        }
        Edge.due(1, () -> pair(1).unstable(5));
        Edge.due(0, () -> pair(1).unstable(0));
    }

    private static void unstableForMembersAlone() {
        for (int p : NO_MEMBER) {
            Edge.refused(Edge.STATE, x -> x.unstable(p));
        }
        CausalBroadcast x = Scene.busy();
        x.requestLeave(0);
        x.install();
        Edge.fails(Edge.STATE, () -> x.unstable(0));
        Edge.due(0, () -> x.unstable(5));
    }

    private static void inTheLogsOfAll() {
        CausalBroadcast x = Scene.members(63);
        x.broadcast(2, 1);
        x.broadcast(2, 2);
        for (int p : new int[] {0, 1, 3, 4, 5}) {
            Edge.due(false, () -> x.isEverywhere(0));
            // A message in a buffer is in no log.
            x.arrive(p, 1);
            Edge.due(false, () -> x.isEverywhere(1));
            x.arrive(p, 0);
        }
        Edge.due(true, () -> x.isEverywhere(0));
        Edge.due(true, () -> x.isEverywhere(1));
        boolean[] due = {true, true, false, false};
        for (int m : new int[] {0, 1, 2, 3}) {
            Edge.asked(due[m], Scene::busy, y -> y.isEverywhere(m));
        }
    }

    private static void onlyMembersNeedIt() {
        CausalBroadcast x = Scene.members(4);
        x.broadcast(2, 1);
        // The only member has it.
        Edge.due(true, () -> x.isEverywhere(0));
        CausalBroadcast y = Scene.members(7);
        y.broadcast(1, 1);
        y.arrive(2, 0);
        y.requestLeave(0);
        y.requestJoin(5);
        Edge.due(false, () -> y.isEverywhere(0));
        y.install();
        Edge.due(true, () -> y.isEverywhere(0));
        // One that only a leaver had is lost to the members.
        CausalBroadcast z = new CausalBroadcast();
        z.broadcast(0, 1);
        z.requestLeave(0);
        z.install();
        Edge.due(false, () -> z.isEverywhere(0));
    }

    private static void noSuchMessageIsEverywhere() {
        for (int m : NO_MESSAGE) {
            Edge.refused(Edge.INDEX, x -> x.isEverywhere(m));
        }
        Edge.refused(Edge.INDEX, CausalBroadcast::new, x -> x.isEverywhere(0));
        Edge.refused(Edge.INDEX, Scene::full, x -> x.isEverywhere(150));
        CausalBroadcast x = Scene.full();
        x.arriveAll(0);
        Edge.due(true, () -> x.isEverywhere(149));
    }

    private static void theFirstOfTheUnaware() {
        CausalBroadcast x = Scene.members(7);
        x.broadcast(1, 1);
        x.arrive(0, 0);
        x.arrive(2, 0);
        Edge.due(0, () -> x.firstUnaware(0));
        x.gossip(2, 0);
        Edge.due(1, () -> x.firstUnaware(0));
        x.gossip(0, 1);
        Edge.due(2, () -> x.firstUnaware(0));
        x.broadcast(1, 2);
        x.arrive(0, 1);
        x.arrive(2, 1);
        // Of the second message the others have told nothing.
        Edge.due(0, () -> x.firstUnaware(1));
        Edge.due(2, () -> x.firstUnaware(0));
        // Who is about to leave counts still, and who is about to join does not count yet.
        CausalBroadcast y = Scene.members(6);
        y.broadcast(1, 1);
        y.arrive(2, 0);
        y.requestLeave(1);
        y.requestJoin(0);
        Edge.due(1, () -> y.firstUnaware(0));
    }

    private static void eachProcessCanBeUnaware() {
        for (int p : Edge.PROCESSES) {
            int other = (p + 1) % 6;
            CausalBroadcast x = Scene.members((1 << p) + (1 << other));
            x.broadcast(p, 1);
            x.arrive(other, 0);
            // The receiver knows of both, the sender only of itself.
            Edge.due(p, () -> x.firstUnaware(0));
        }
        Edge.asked(5, () -> pair(150), x -> x.firstUnaware(149));
    }

    private static void nobodyIsUnawareOfNothing() {
        for (int m : NO_MESSAGE) {
            Edge.refused(Edge.INDEX, x -> x.firstUnaware(m));
        }
        Edge.refused(Edge.INDEX, CausalBroadcast::new, x -> x.firstUnaware(0));
        Edge.refused(Edge.INDEX, Scene::full, x -> x.firstUnaware(150));
    }

    private static void notYetInTheLogsOfAll() {
        Edge.refused(Edge.ELEMENT, x -> x.firstUnaware(2));
        Edge.refused(Edge.ELEMENT, x -> x.firstUnaware(3));
        CausalBroadcast x = Scene.members(7);
        x.broadcast(0, 1);
        x.arrive(1, 0);
        Edge.fails(Edge.ELEMENT, () -> x.firstUnaware(0));
        x.arrive(2, 0);
        Edge.due(0, () -> x.firstUnaware(0));
    }

    private static void allAreAware() {
        // Messages of an earlier view, and of a group of one.
        Edge.refused(Edge.ELEMENT, x -> x.firstUnaware(0));
        Edge.refused(Edge.ELEMENT, x -> x.firstUnaware(1));
        CausalBroadcast alone = Scene.members(32);
        alone.broadcast(5, 1);
        Edge.fails(Edge.ELEMENT, () -> alone.firstUnaware(0));
        CausalBroadcast x = pair(1);
        Edge.due(5, () -> x.firstUnaware(0));
        x.gossip(0, 5);
        Edge.fails(Edge.ELEMENT, () -> x.firstUnaware(0));
    }
}
