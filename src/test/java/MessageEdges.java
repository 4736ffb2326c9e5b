/** The boundaries of promises 10 to 21. */
final class MessageEdges {
    /** Wrong in the busy group, which has four messages. */
    private static final int[] NO_MESSAGE = {-1, 4, 149, 150, Integer.MIN_VALUE, Integer.MAX_VALUE};

    private MessageEdges() {
    }

    static void all() {
        Edge.of(10, "Sends a message.", MessageEdges::eachMemberSends);
        Edge.of(10, "Returns the number of the message.", MessageEdges::numbersGoFrom0To149);
        Edge.of(10, "there is no such process", MessageEdges::noSuchProcessSends);
        Edge.of(10, "the process is not a member", MessageEdges::onlyMembersSend);
        Edge.of(10, "150 messages have been sent", MessageEdges::the151stIsRefused);
        Edge.of(11, "Lets a message arrive at a member.", MessageEdges::arrivesAtOneMember);
        Edge.of(11, "If it has arrived there before, or the member sent it, nothing changes except that it is counted"
                + " as a duplicate.", MessageEdges::duplicatesAreOnlyCounted);
        Edge.of(11, "Returns the number of messages that the member delivers.", MessageEdges::anArrivalDelivers0To150);
        Edge.of(11, "there is no such process or message", MessageEdges::nothingSuchArrives);
        Edge.of(11, "the process is not a member", MessageEdges::arrivesAtMembersAlone);
        Edge.of(11, "the message was not sent in the current view", MessageEdges::onlyTheCurrentViewArrives);
        Edge.of(12, "Lets all messages of the current view arrive at a member that have not arrived there and that it"
                + " did not send, in ascending order.", MessageEdges::allArriveInAscendingOrder);
        Edge.of(12, "that have not arrived there and that it did not send", MessageEdges::theRestArrives);
        Edge.of(12, "Returns the number of messages that the member delivers.", MessageEdges::allDeliver0To150);
        Edge.of(12, "there is no such process", MessageEdges::allArriveAtNoSuchProcess);
        Edge.of(12, "the process is not a member", MessageEdges::allArriveAtMembersAlone);
        Edge.of(13, "each number in the table of the receiver, except in its own line, becomes the number of the"
                + " sender's table if that is greater", MessageEdges::gossipTellsGreaterNumbers);
        Edge.of(13, "Returns how many numbers increase.", MessageEdges::gossipIncreases0To30);
        Edge.of(13, "there is no such process", MessageEdges::noSuchProcessGossips);
        Edge.of(13, "one of both is not a member", MessageEdges::onlyMembersGossip);
        Edge.of(13, "both are the same", MessageEdges::nobodyGossipsAlone);
        Edge.of(14, "Returns the number of messages that were sent.", MessageEdges::allViewsCount);
        Edge.of(14, "Returns 0 to 150.", MessageEdges::from0To150);
        Edge.of(15, "Returns a number of a message.", MessageEdges::theFirstAndTheLastMessage);
        Edge.of(15, "0 for the sender, 1 for the payload, 2 for the view, 3 for the sequence number",
                MessageEdges::theFourNumbers);
        Edge.of(15, "there is no such message", MessageEdges::numbersOfNoMessage);
        Edge.of(15, "what is not 0 to 3", MessageEdges::noFifthNumber);
        Edge.of(16, "Returns an entry of the clock of a message.", MessageEdges::entriesOfAllProcesses);
        Edge.of(16, "there is no such message or process", MessageEdges::entriesOfNothingSuch);
        Edge.of(17, "Returns whether a message is a cause of another one.", MessageEdges::causesGoOneWay);
        Edge.of(17, "false if both are the same", MessageEdges::noMessageCausesItself);
        Edge.of(17, "there is no such message", MessageEdges::noSuchCause);
        Edge.of(18, "Returns the number of causes of a message.", MessageEdges::from0To149Causes);
        Edge.of(18, "there is no such message", MessageEdges::causesOfNoMessage);
        Edge.of(19, "Returns the number of messages that are concurrent with a message.",
                MessageEdges::from0To149Concurrent);
        Edge.of(19, "there is no such message", MessageEdges::concurrentWithNoMessage);
        Edge.of(20, "a longest sequence of messages of one view in which each one but the first has the one before as"
                + " a cause", MessageEdges::chainsFollowCauses);
        Edge.of(20, "Returns the number, 0 if no message was sent in the view.", MessageEdges::chainsOf0To150);
        Edge.of(20, "there is no such view", MessageEdges::chainsInNoView);
        Edge.of(21, "Returns the number of duplicates that were counted.", MessageEdges::duplicatesAreCountedFrom0);
    }

    private static void eachMemberSends() {
        CausalBroadcast x = Scene.members(63);
        for (int p : Edge.PROCESSES) {
            Edge.due(p, () -> x.broadcast(p, 10 + p));
            Edge.due(p, () -> x.message(p, 0));
            Edge.due(10 + p, () -> x.message(p, 1));
            Edge.due(1, () -> x.logLength(p));
            Edge.due(p, () -> x.inTransit(p));
        }
    }

    private static void numbersGoFrom0To149() {
        CausalBroadcast x = new CausalBroadcast();
        for (int message = 0; message < 150; message++) {
            int number = message;
            Edge.due(number, () -> x.broadcast(number % 2, number));
        }
    }

    private static void noSuchProcessSends() {
        for (int p : Edge.NO_PROCESS) {
            Edge.refused(Edge.INDEX, x -> x.broadcast(p, 1));
            Edge.refused(Edge.INDEX, () -> Scene.members(63), x -> x.broadcast(p, 1));
        }
        Edge.refused(Edge.INDEX, Scene::full, x -> x.broadcast(-1, 1));
        Edge.refused(Edge.INDEX, Scene::full, x -> x.broadcast(6, 1));
    }

    private static void onlyMembersSend() {
        // One who has left, one who was never there, one who is only proposed.
        for (int p : new int[] {2, 4, 5}) {
            Edge.refused(Edge.STATE, x -> x.broadcast(p, 1));
        }
        CausalBroadcast x = Scene.busy();
        x.requestLeave(0);
        Edge.due(4, () -> x.broadcast(0, 1));
        x.install();
        Edge.fails(Edge.STATE, () -> x.broadcast(0, 1));
        Edge.due(5, () -> x.broadcast(5, 1));
    }

    private static void the151stIsRefused() {
        CausalBroadcast x = new CausalBroadcast();
        for (int i = 0; i < 149; i++) {
            x.broadcast(0, i);
        }
        x.saveSnapshot();
        Edge.due(149, () -> x.broadcast(1, 1));
        Edge.fails(Edge.STATE, () -> x.broadcast(1, 1));
        Edge.fails(Edge.STATE, () -> x.broadcast(0, 1));
        x.install();
        // A new view does not make room for more, but an earlier state and a new start do.
        Edge.fails(Edge.STATE, () -> x.broadcast(0, 1));
        x.restoreSnapshot();
        Edge.due(149, () -> x.broadcast(0, 1));
        x.reset(3);
        Edge.due(0, () -> x.broadcast(0, 1));
        Edge.refused(Edge.STATE, Scene::full, y -> y.broadcast(0, 1));
        Edge.refused(Edge.STATE, Scene::full, y -> y.broadcast(1, 1));
    }

    private static void arrivesAtOneMember() {
        for (int p : new int[] {0, 5}) {
            CausalBroadcast x = Scene.members(63);
            x.broadcast(3, 7);
            Edge.due(1, () -> x.arrive(p, 0));
            for (int q : Edge.PROCESSES) {
                Edge.due(q == p || q == 3 ? 1 : 0, () -> x.logLength(q));
                Edge.due(q == p || q == 3 ? 0 : 1, () -> x.inTransit(q));
            }
        }
        CausalBroadcast full = Scene.full();
        full.arriveAll(0);
        Edge.due(0, () -> full.arrive(1, 148));
        Edge.due(1, () -> full.arrive(1, 0));
    }

    private static void duplicatesAreOnlyCounted() {
        // Delivered before, waiting in the buffer, sent by the member, delivered by all that arrived.
        int[][] rows = {{1, 2}, {0, 3}, {3, 2}, {3, 3}};
        for (int[] row : rows) {
            CausalBroadcast x = Scene.busy();
            String before = Picture.of(x);
            for (int times = 1; times <= 3; times++) {
                Edge.due(0, () -> x.arrive(row[0], row[1]));
                String due = before.replace("duplicates: 1\n", "duplicates: " + (1 + times) + "\n");
                Edge.same(due, Picture.of(x));
            }
        }
        CausalBroadcast y = Scene.busy();
        y.arriveAll(0);
        Edge.due(1, () -> y.duplicates());
        Edge.due(0, () -> y.arrive(0, 2));
        Edge.due(2, () -> y.duplicates());
    }

    private static void anArrivalDelivers0To150() {
        CausalBroadcast x = Scene.oneSender();
        for (int message = 1; message < 150; message++) {
            int number = message;
            Edge.due(0, () -> x.arrive(1, number));
        }
        Edge.due(150, () -> x.arrive(1, 0));
        Edge.due(0, () -> x.arrive(1, 0));
        Edge.due(150, () -> x.logLength(1));
        CausalBroadcast y = Scene.busy();
        Edge.due(1, () -> y.arrive(1, 3));
        Edge.due(2, () -> y.arrive(0, 2));
    }

    private static void nothingSuchArrives() {
        for (int p : Edge.NO_PROCESS) {
            Edge.refused(Edge.INDEX, x -> x.arrive(p, 3));
            Edge.refused(Edge.INDEX, x -> x.arrive(p, 0));
        }
        for (int m : NO_MESSAGE) {
            Edge.refused(Edge.INDEX, x -> x.arrive(0, m));
            Edge.refused(Edge.INDEX, x -> x.arrive(2, m));
        }
        Edge.refused(Edge.INDEX, CausalBroadcast::new, x -> x.arrive(0, 0));
        Edge.refused(Edge.INDEX, Scene::full, x -> x.arrive(0, 150));
    }

    private static void arrivesAtMembersAlone() {
        for (int p : new int[] {2, 4, 5}) {
            Edge.refused(Edge.STATE, x -> x.arrive(p, 2));
            Edge.refused(Edge.STATE, x -> x.arrive(p, 0));
        }
    }

    private static void onlyTheCurrentViewArrives() {
        // The last message of the view before is refused, the first one of this view arrives.
        Edge.refused(Edge.STATE, x -> x.arrive(0, 0));
        Edge.refused(Edge.STATE, x -> x.arrive(0, 1));
        Edge.refused(Edge.STATE, x -> x.arrive(1, 1));
        CausalBroadcast x = Scene.busy();
        Edge.due(2, () -> x.arrive(0, 2));
        x.install();
        Edge.fails(Edge.STATE, () -> x.arrive(1, 3));
        x.broadcast(5, 1);
        Edge.fails(Edge.STATE, () -> x.arrive(1, 3));
        Edge.due(1, () -> x.arrive(1, 4));
    }

    private static void allArriveInAscendingOrder() {
        CausalBroadcast x = Scene.members(7);
        x.broadcast(1, 1);
        x.broadcast(0, 2);
        x.broadcast(1, 3);
        x.broadcast(0, 4);
        Edge.due(4, () -> x.arriveAll(2));
        Edge.same("0 1 2 3", Scene.log(x, 2));
        // Message 0 frees 2 from the buffer before message 1 arrives.
        CausalBroadcast y = Scene.members(7);
        y.broadcast(1, 1);
        y.broadcast(0, 2);
        y.broadcast(1, 3);
        y.arrive(2, 2);
        Edge.due(3, () -> y.arriveAll(2));
        Edge.same("0 2 1", Scene.log(y, 2));
    }

    private static void theRestArrives() {
        CausalBroadcast x = Scene.busy();
        Edge.due(2, () -> x.arriveAll(0));
        Edge.same("0 1 2 3", Scene.log(x, 0));
        Edge.due(1, () -> x.arriveAll(1));
        // Its own messages and those of the view before do not arrive, and none is a duplicate.
        Edge.due(0, () -> x.arriveAll(3));
        Edge.same("0 1 2 3", Scene.log(x, 3));
        Edge.due(0, () -> x.arriveAll(0));
        Edge.due(1, () -> x.duplicates());
        for (int p : new int[] {0, 1, 3}) {
            Edge.due(0, () -> x.inTransit(p));
        }
        x.install();
        Edge.due(0, () -> x.arriveAll(5));
        Edge.due(1, () -> x.duplicates());
    }

    private static void allDeliver0To150() {
        CausalBroadcast x = new CausalBroadcast();
        Edge.due(0, () -> x.arriveAll(0));
        CausalBroadcast y = Scene.oneSender();
        Edge.due(150, () -> y.arriveAll(1));
        Edge.due(0, () -> y.arriveAll(1));
        CausalBroadcast z = Scene.oneSender();
        for (int message = 149; message > 0; message--) {
            z.arrive(1, message);
        }
        // Those that had waited are delivered with the one that arrives.
        Edge.due(150, () -> z.arriveAll(1));
        Edge.due(0, () -> z.arriveAll(0));
    }

    private static void allArriveAtNoSuchProcess() {
        for (int p : Edge.NO_PROCESS) {
            Edge.refused(Edge.INDEX, x -> x.arriveAll(p));
        }
        CausalBroadcast x = Scene.members(63);
        x.broadcast(3, 1);
        Edge.due(1, () -> x.arriveAll(0));
        Edge.due(1, () -> x.arriveAll(5));
    }

    private static void allArriveAtMembersAlone() {
        for (int p : new int[] {2, 4, 5}) {
            Edge.refused(Edge.STATE, x -> x.arriveAll(p));
        }
    }

    private static void gossipTellsGreaterNumbers() {
        CausalBroadcast x = Scene.members(7);
        x.broadcast(0, 1);
        x.broadcast(0, 2);
        x.arriveAll(1);
        x.broadcast(1, 3);
        x.arrive(2, 0);
        Edge.same("1 0 0 0 0 0", Scene.line(x, 2, 0));
        // Process 1 knows 2 of process 0 and has 2 1 itself; of process 2 it knows nothing.
        Edge.due(3, () -> x.gossip(1, 2));
        Edge.same("2 0 0 0 0 0", Scene.line(x, 2, 0));
        Edge.same("2 1 0 0 0 0", Scene.line(x, 2, 1));
        Edge.same("1 0 0 0 0 0", Scene.line(x, 2, 2));
        // Equal numbers do not count and smaller ones do not tell.
        Edge.due(0, () -> x.gossip(1, 2));
        Edge.due(1, () -> x.gossip(2, 1));
        Edge.same("1 0 0 0 0 0", Scene.line(x, 1, 2));
        Edge.same("2 0 0 0 0 0", Scene.line(x, 1, 0));
        Edge.due(3, () -> x.gossip(2, 0));
        Edge.same("2 0 0 0 0 0", Scene.line(x, 0, 0));
        // Only the table is told: no log, no state and no sender changes.
        Edge.same("0", Scene.log(x, 2));
        Edge.same("2 1 0 0 0 0", Scene.line(x, 2, 1));
        Edge.due(2, () -> x.inTransit(2));
    }

    private static void gossipIncreases0To30() {
        CausalBroadcast x = Scene.members(63);
        for (int p : Edge.PROCESSES) {
            x.broadcast(p, p);
        }
        for (int p : new int[] {0, 1, 2, 3, 4}) {
            x.arriveAll(p);
        }
        for (int p : new int[] {1, 2, 3, 4}) {
            Edge.due(5, () -> x.gossip(p, 0));
        }
        // Process 5 has heard of nobody: five lines of six numbers.
        Edge.due(30, () -> x.gossip(0, 5));
        Edge.due(0, () -> x.gossip(0, 5));
        Edge.due(0, () -> Scene.members(3).gossip(0, 1));
    }

    private static void noSuchProcessGossips() {
        for (int p : Edge.NO_PROCESS) {
            Edge.refused(Edge.INDEX, x -> x.gossip(p, 0));
            Edge.refused(Edge.INDEX, x -> x.gossip(0, p));
            Edge.refused(Edge.INDEX, x -> x.gossip(p, p));
            Edge.refused(Edge.INDEX, x -> x.gossip(4, p));
        }
        CausalBroadcast x = Scene.members(63);
        x.broadcast(5, 1);
        Edge.due(1, () -> x.gossip(5, 0));
        Edge.due(0, () -> x.gossip(0, 5));
    }

    private static void onlyMembersGossip() {
        for (int p : new int[] {2, 4, 5}) {
            Edge.refused(Edge.STATE, x -> x.gossip(p, 0));
            Edge.refused(Edge.STATE, x -> x.gossip(0, p));
        }
        Edge.refused(Edge.STATE, x -> x.gossip(2, 4));
    }

    private static void nobodyGossipsAlone() {
        for (int p : Edge.PROCESSES) {
            Edge.refused(Edge.STATE, x -> x.gossip(p, p));
            Edge.refused(Edge.STATE, () -> Scene.members(63), x -> x.gossip(p, p));
        }
    }

    private static void allViewsCount() {
        Edge.asked(4, Scene::busy, x -> x.messageCount());
        CausalBroadcast x = Scene.busy();
        x.install();
        Edge.due(4, () -> x.messageCount());
        x.broadcast(5, 1);
        Edge.due(5, () -> x.messageCount());
        Edge.fails(Edge.STATE, () -> x.broadcast(2, 1));
        Edge.due(5, () -> x.messageCount());
        x.restoreSnapshot();
        Edge.due(2, () -> x.messageCount());
        x.reset(3);
        Edge.due(0, () -> x.messageCount());
    }

    private static void from0To150() {
        Edge.asked(0, CausalBroadcast::new, x -> x.messageCount());
        Edge.asked(150, Scene::full, x -> x.messageCount());
        CausalBroadcast x = Scene.full();
        Edge.fails(Edge.STATE, () -> x.broadcast(0, 1));
        Edge.due(150, () -> x.messageCount());
    }

    private static void theFirstAndTheLastMessage() {
        Edge.asked(9, Scene::full, x -> x.message(0, 1));
        Edge.asked(149, Scene::full, x -> x.message(149, 1));
        Edge.asked(75, Scene::full, x -> x.message(149, 3));
    }

    private static void theFourNumbers() {
        int[][] due = {{0, 1, 0, 1}, {1, 2, 0, 1}, {3, 4, 1, 1}, {3, 5, 1, 2}};
        for (int m : new int[] {0, 1, 2, 3}) {
            for (int what : new int[] {0, 1, 2, 3}) {
                Edge.asked(due[m][what], Scene::busy, x -> x.message(m, what));
            }
        }
    }

    private static void numbersOfNoMessage() {
        for (int m : NO_MESSAGE) {
            Edge.refused(Edge.INDEX, x -> x.message(m, 0));
            Edge.refused(Edge.INDEX, x -> x.message(m, 4));
        }
        Edge.refused(Edge.INDEX, CausalBroadcast::new, x -> x.message(0, 0));
        Edge.refused(Edge.INDEX, Scene::full, x -> x.message(150, 3));
        CausalBroadcast x = Scene.busy();
        x.restoreSnapshot();
        Edge.due(2, () -> x.message(1, 1));
        Edge.fails(Edge.INDEX, () -> x.message(2, 1));
        x.reset(3);
        Edge.fails(Edge.INDEX, () -> x.message(0, 1));
    }

    private static void noFifthNumber() {
        for (int what : new int[] {-1, 4, 5, Integer.MIN_VALUE, Integer.MAX_VALUE}) {
            Edge.refused(Edge.ARGUMENT, x -> x.message(0, what));
            Edge.refused(Edge.ARGUMENT, x -> x.message(3, what));
        }
    }

    private static void entriesOfAllProcesses() {
        CausalBroadcast x = Scene.members(63);
        for (int p : Edge.PROCESSES) {
            x.arriveAll(p);
            x.broadcast(p, p);
        }
        x.broadcast(0, 7);
        x.install();
        x.broadcast(5, 8);
        String[] due = {"1 0 0 0 0 0", "1 1 0 0 0 0", "1 1 1 0 0 0", "1 1 1 1 0 0", "1 1 1 1 1 0", "1 1 1 1 1 1",
            "2 0 0 0 0 0", "0 0 0 0 0 1"};
        for (int m = 0; m < due.length; m++) {
            Edge.same(due[m], Scene.messageClock(x, m));
        }
        Edge.due(150, () -> Scene.oneSender().messageClock(149, 0));
    }

    private static void entriesOfNothingSuch() {
        for (int m : NO_MESSAGE) {
            Edge.refused(Edge.INDEX, x -> x.messageClock(m, 0));
        }
        for (int p : Edge.NO_PROCESS) {
            Edge.refused(Edge.INDEX, x -> x.messageClock(0, p));
            Edge.refused(Edge.INDEX, x -> x.messageClock(3, p));
            Edge.refused(Edge.INDEX, x -> x.messageClock(4, p));
        }
        Edge.asked(1, Scene::busy, x -> x.messageClock(0, 0));
        Edge.asked(0, Scene::busy, x -> x.messageClock(3, 5));
        Edge.refused(Edge.INDEX, Scene::full, x -> x.messageClock(150, 0));
        Edge.refused(Edge.INDEX, CausalBroadcast::new, x -> x.messageClock(0, 0));
    }

    private static void causesGoOneWay() {
        Edge.asked(true, Scene::busy, x -> x.isCause(2, 3));
        Edge.asked(false, Scene::busy, x -> x.isCause(3, 2));
        Edge.asked(false, Scene::busy, x -> x.isCause(0, 1));
        Edge.asked(false, Scene::busy, x -> x.isCause(0, 2));
        Edge.asked(true, Scene::oneSender, x -> x.isCause(0, 149));
        Edge.asked(false, Scene::oneSender, x -> x.isCause(149, 0));
    }

    private static void noMessageCausesItself() {
        for (int m : new int[] {0, 1, 2, 3}) {
            Edge.asked(false, Scene::busy, x -> x.isCause(m, m));
        }
        Edge.asked(false, Scene::oneSender, x -> x.isCause(149, 149));
    }

    private static void noSuchCause() {
        for (int m : NO_MESSAGE) {
            Edge.refused(Edge.INDEX, x -> x.isCause(m, 0));
            Edge.refused(Edge.INDEX, x -> x.isCause(0, m));
            // That both are the same does not help a message that there is not.
            Edge.refused(Edge.INDEX, x -> x.isCause(m, m));
        }
        Edge.refused(Edge.INDEX, CausalBroadcast::new, x -> x.isCause(0, 0));
        Edge.refused(Edge.INDEX, Scene::full, x -> x.isCause(150, 0));
        Edge.refused(Edge.INDEX, Scene::full, x -> x.isCause(0, 150));
    }

    private static void from0To149Causes() {
        Edge.asked(0, Scene::oneSender, x -> x.causes(0));
        Edge.asked(1, Scene::oneSender, x -> x.causes(1));
        Edge.asked(149, Scene::oneSender, x -> x.causes(149));
        Edge.asked(0, Scene::busy, x -> x.causes(2));
        Edge.asked(1, Scene::busy, x -> x.causes(3));
        CausalBroadcast x = Scene.full();
        Edge.due(74, () -> x.causes(149));
    }

    private static void causesOfNoMessage() {
        for (int m : NO_MESSAGE) {
            Edge.refused(Edge.INDEX, x -> x.causes(m));
        }
        Edge.refused(Edge.INDEX, CausalBroadcast::new, x -> x.causes(0));
        Edge.refused(Edge.INDEX, Scene::full, x -> x.causes(150));
    }

    private static void from0To149Concurrent() {
        Edge.asked(0, Scene::oneSender, x -> x.concurrent(0));
        Edge.asked(0, Scene::oneSender, x -> x.concurrent(149));
        Edge.asked(75, Scene::full, x -> x.concurrent(0));
        Edge.asked(75, Scene::full, x -> x.concurrent(149));
        Edge.asked(1, Scene::busy, x -> x.concurrent(0));
        Edge.asked(0, Scene::busy, x -> x.concurrent(3));
        CausalBroadcast x = new CausalBroadcast();
        x.broadcast(1, 1);
        for (int i = 0; i < 149; i++) {
            x.broadcast(0, i);
        }
        // All but itself.
        Edge.due(149, () -> x.concurrent(0));
        Edge.due(1, () -> x.concurrent(149));
    }

    private static void concurrentWithNoMessage() {
        for (int m : NO_MESSAGE) {
            Edge.refused(Edge.INDEX, x -> x.concurrent(m));
        }
        Edge.refused(Edge.INDEX, CausalBroadcast::new, x -> x.concurrent(0));
        Edge.refused(Edge.INDEX, Scene::full, x -> x.concurrent(150));
    }

    private static void chainsFollowCauses() {
        CausalBroadcast x = Scene.members(7);
        x.broadcast(0, 1);
        x.broadcast(1, 2);
        x.broadcast(2, 3);
        Edge.due(1, () -> x.longestChain(0));
        x.arriveAll(2);
        x.broadcast(2, 4);
        // Three causes, but they are concurrent.
        Edge.due(3, () -> x.causes(3));
        Edge.due(2, () -> x.longestChain(0));
        x.arrive(1, 0);
        x.broadcast(1, 5);
        Edge.due(2, () -> x.longestChain(0));
        x.arriveAll(0);
        x.broadcast(0, 6);
        Edge.due(3, () -> x.longestChain(0));
        x.broadcast(1, 7);
        Edge.due(3, () -> x.longestChain(0));
        x.broadcast(1, 8);
        Edge.due(4, () -> x.longestChain(0));
    }

    private static void chainsOf0To150() {
        Edge.asked(0, CausalBroadcast::new, x -> x.longestChain(0));
        Edge.asked(150, Scene::oneSender, x -> x.longestChain(0));
        Edge.asked(75, Scene::full, x -> x.longestChain(0));
        CausalBroadcast x = Scene.oneSender();
        x.install();
        Edge.due(0, () -> x.longestChain(1));
        Edge.due(150, () -> x.longestChain(0));
        x.reset(3);
        Edge.due(0, () -> x.longestChain(0));
        x.install();
        x.broadcast(0, 1);
        Edge.due(0, () -> x.longestChain(0));
        Edge.due(1, () -> x.longestChain(1));
        Edge.asked(0, Scene::lastView, y -> y.longestChain(19));
        Edge.asked(1, Scene::lastView, y -> y.longestChain(20));
    }

    private static void chainsInNoView() {
        for (int view : new int[] {-1, 2, 20, 21, Integer.MIN_VALUE, Integer.MAX_VALUE}) {
            Edge.refused(Edge.INDEX, x -> x.longestChain(view));
        }
        Edge.asked(1, Scene::busy, x -> x.longestChain(0));
        Edge.asked(2, Scene::busy, x -> x.longestChain(1));
        Edge.refused(Edge.INDEX, Scene::lastView, x -> x.longestChain(21));
    }

    private static void duplicatesAreCountedFrom0() {
        Edge.asked(0, CausalBroadcast::new, x -> x.duplicates());
        Edge.asked(1, Scene::busy, x -> x.duplicates());
        CausalBroadcast x = Scene.busy();
        x.arrive(3, 2);
        x.arrive(1, 2);
        x.arrive(0, 3);
        Edge.due(4, () -> x.duplicates());
        x.arriveAll(0);
        Edge.fails(Edge.STATE, () -> x.arrive(2, 2));
        Edge.fails(Edge.STATE, () -> x.arrive(0, 0));
        Edge.fails(Edge.INDEX, () -> x.arrive(0, 4));
        Edge.due(4, () -> x.duplicates());
        x.install();
        // A new view goes on counting, a new start counts from 0.
        Edge.due(4, () -> x.duplicates());
        x.restoreSnapshot();
        Edge.due(0, () -> x.duplicates());
        x.arrive(0, 0);
        Edge.due(1, () -> x.duplicates());
        x.reset(3);
        Edge.due(0, () -> x.duplicates());
    }
}
