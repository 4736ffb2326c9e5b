import java.util.function.Function;

/** The boundaries of promises 22 to 32. */
final class ProcessEdges {
    /** Wrong in the busy group, which has four messages. */
    private static final int[] NO_MESSAGE = {-1, 4, 149, 150, Integer.MIN_VALUE, Integer.MAX_VALUE};
    /** In the busy group: one who has left, one who was never there, one who is only proposed. */
    private static final int[] NO_MEMBER = {2, 4, 5};

    private ProcessEdges() {
    }

    static void all() {
        Edge.of(22, "Returns the number of messages in the log of a process.", ProcessEdges::logsOf0To150);
        Edge.of(22, "there is no such process", () -> refusedForNoProcess(p -> x -> x.logLength(p)));
        Edge.of(23, "Returns a message in the log of a process.", ProcessEdges::eachLoggedMessage);
        Edge.of(23, "the index in the log, from 0", ProcessEdges::theFirstAndTheLastIndex);
        Edge.of(23, "Returns the number of the message.", ProcessEdges::numbersInsteadOfIndices);
        Edge.of(23, "there is no such process or index", ProcessEdges::nothingSuchIsLogged);
        Edge.of(24, "Returns the index of a message in the log of a process.", ProcessEdges::positionsFrom0To149);
        Edge.of(24, "there is no such process or message", ProcessEdges::positionsOfNothingSuch);
        Edge.of(24, "the message is not in the log", ProcessEdges::positionsOutsideTheLog);
        Edge.of(25, "Returns the state of a process.", ProcessEdges::statesOfAllProcesses);
        Edge.of(25, "there is no such process", () -> refusedForNoProcess(p -> x -> x.state(p)));
        Edge.of(26, "Returns an entry of the clock of a member.", ProcessEdges::entriesFrom0To150);
        Edge.of(26, "there is no such process", ProcessEdges::clocksOfNoProcess);
        Edge.of(26, "the process is not a member", () -> refusedForNoMember(p -> x -> x.clock(p, 0)));
        Edge.of(27, "Returns the number of messages in the buffer of a member.", ProcessEdges::buffersOf0To149);
        Edge.of(27, "there is no such process", () -> refusedForNoProcess(p -> x -> x.buffered(p)));
        Edge.of(27, "the process is not a member", () -> refusedForNoMember(p -> x -> x.buffered(p)));
        Edge.of(28, "Returns a message in the buffer of a member.", ProcessEdges::eachBufferedMessage);
        Edge.of(28, "the index in ascending order of the numbers of the messages, from 0",
                ProcessEdges::buffersAreAscending);
        Edge.of(28, "Returns the number of the message.", ProcessEdges::theGreatestBuffer);
        Edge.of(28, "there is no such process", ProcessEdges::bufferedAtNoProcess);
        Edge.of(28, "the process is not a member", ProcessEdges::bufferedAtNoMember);
        Edge.of(28, "there is no such message in the buffer", ProcessEdges::noSuchMessageIsBuffered);
        Edge.of(29, "Returns how many causes of a message are not in the log of a member.",
                ProcessEdges::from0To149Missing);
        Edge.of(29, "there is no such process or message", ProcessEdges::nothingSuchMisses);
        Edge.of(29, "the process is not a member", ProcessEdges::missingAtNoMember);
        Edge.of(29, "the message was not sent in the current view", ProcessEdges::missingOfAnEarlierView);
        Edge.of(30, "Returns the number of messages of the current view that have not arrived at a member and that it"
                + " did not send.", ProcessEdges::from0To150InTransit);
        Edge.of(30, "there is no such process", () -> refusedForNoProcess(p -> x -> x.inTransit(p)));
        Edge.of(30, "the process is not a member", () -> refusedForNoMember(p -> x -> x.inTransit(p)));
        Edge.of(31, "pairs of messages that are in both logs, in different orders", ProcessEdges::pairsInBothLogs);
        Edge.of(31, "Returns the number of pairs.", ProcessEdges::from0To5625Pairs);
        Edge.of(31, "there is no such process", ProcessEdges::noSuchProcessDisagrees);
        Edge.of(32, "Returns the share of the messages in the log of the first process that are also in the log of the"
                + " second one", ProcessEdges::sharesFrom0To1);
        Edge.of(32, "as the quotient of both numbers converted to double", ProcessEdges::sharesAreQuotients);
        Edge.of(32, "there is no such process", ProcessEdges::noSuchProcessOverlaps);
        Edge.of(32, "the log of the first process is empty", ProcessEdges::anEmptyLogHasNoShare);
    }

    private static void refusedForNoProcess(Function<Integer, Function<CausalBroadcast, Object>> question) {
        for (int p : Edge.NO_PROCESS) {
            Edge.refused(Edge.INDEX, question.apply(p));
        }
        CausalBroadcast x = Scene.members(63);
        Edge.due(0, () -> question.apply(0).apply(x));
        Edge.due(0, () -> question.apply(5).apply(x));
    }

    private static void refusedForNoMember(Function<Integer, Function<CausalBroadcast, Object>> question) {
        for (int p : NO_MEMBER) {
            Edge.refused(Edge.STATE, question.apply(p));
        }
        // Who is proposed is a member once the view is installed, and who has left no longer.
        CausalBroadcast x = Scene.busy();
        x.requestLeave(0);
        x.install();
        Edge.due(0, () -> question.apply(5).apply(x));
        Edge.fails(Edge.STATE, () -> question.apply(0).apply(x));
    }

    private static void logsOf0To150() {
        int[] due = {2, 3, 0, 4, 0, 0};
        for (int p : Edge.PROCESSES) {
            Edge.asked(due[p], Scene::busy, x -> x.logLength(p));
        }
        CausalBroadcast x = Scene.full();
        x.arriveAll(0);
        Edge.due(150, () -> x.logLength(0));
        Edge.due(75, () -> x.logLength(1));
        x.requestJoin(5);
        x.install();
        Edge.due(150, () -> x.logLength(5));
    }

    private static void eachLoggedMessage() {
        int[] due = {1, 0, 2};
        for (int i : new int[] {0, 1, 2}) {
            Edge.asked(due[i], Scene::busy, x -> x.logged(1, i));
        }
    }

    private static void theFirstAndTheLastIndex() {
        CausalBroadcast x = Scene.full();
        x.arriveAll(1);
        Edge.due(1, () -> x.logged(1, 0));
        Edge.due(149, () -> x.logged(1, 74));
        Edge.due(0, () -> x.logged(1, 75));
        Edge.due(148, () -> x.logged(1, 149));
        Edge.fails(Edge.INDEX, () -> x.logged(1, 150));
        Edge.fails(Edge.INDEX, () -> x.logged(0, 75));
    }

    private static void numbersInsteadOfIndices() {
        Edge.asked(2, Scene::busy, x -> x.logged(1, 2));
        CausalBroadcast x = Scene.busy();
        x.install();
        x.broadcast(5, 1);
        Edge.due(4, () -> x.logged(5, 4));
        x.restoreSnapshot();
        Edge.due(1, () -> x.logged(1, 0));
        Edge.fails(Edge.INDEX, () -> x.logged(1, 1));
    }

    private static void nothingSuchIsLogged() {
        for (int p : Edge.NO_PROCESS) {
            Edge.refused(Edge.INDEX, x -> x.logged(p, 0));
        }
        for (int index : new int[] {-1, 2, 3, 149, 150, Integer.MIN_VALUE, Integer.MAX_VALUE}) {
            Edge.refused(Edge.INDEX, x -> x.logged(0, index));
        }
        // Empty logs, of a member and of others.
        for (int p : Edge.PROCESSES) {
            Edge.refused(Edge.INDEX, CausalBroadcast::new, x -> x.logged(p, 0));
        }
        CausalBroadcast x = Scene.busy();
        x.reset(3);
        Edge.fails(Edge.INDEX, () -> x.logged(0, 0));
    }

    private static void positionsFrom0To149() {
        int[] due = {1, 0, 2};
        for (int m : new int[] {0, 1, 2}) {
            Edge.asked(due[m], Scene::busy, x -> x.position(1, m));
        }
        CausalBroadcast x = Scene.full();
        x.arriveAll(1);
        Edge.due(0, () -> x.position(1, 1));
        Edge.due(75, () -> x.position(1, 0));
        Edge.due(149, () -> x.position(1, 148));
    }

    private static void positionsOfNothingSuch() {
        for (int p : Edge.NO_PROCESS) {
            Edge.refused(Edge.INDEX, x -> x.position(p, 0));
            Edge.refused(Edge.INDEX, x -> x.position(p, 3));
        }
        for (int m : NO_MESSAGE) {
            Edge.refused(Edge.INDEX, x -> x.position(0, m));
            Edge.refused(Edge.INDEX, x -> x.position(4, m));
        }
        Edge.refused(Edge.INDEX, CausalBroadcast::new, x -> x.position(0, 0));
        Edge.refused(Edge.INDEX, Scene::full, x -> x.position(0, 150));
    }

    private static void positionsOutsideTheLog() {
        // In the buffer, in transit, at one who has left, at one who was never there.
        Edge.refused(Edge.ELEMENT, x -> x.position(0, 3));
        Edge.refused(Edge.ELEMENT, x -> x.position(0, 2));
        Edge.refused(Edge.ELEMENT, x -> x.position(1, 3));
        Edge.refused(Edge.ELEMENT, x -> x.position(2, 0));
        Edge.refused(Edge.ELEMENT, x -> x.position(5, 3));
        CausalBroadcast x = Scene.members(7);
        x.broadcast(0, 1);
        x.broadcast(0, 2);
        x.arrive(1, 1);
        x.requestLeave(0);
        x.install();
        // It waited in the view before and is lost.
        Edge.fails(Edge.ELEMENT, () -> x.position(1, 1));
        Edge.due(1, () -> x.position(0, 1));
    }

    private static void statesOfAllProcesses() {
        int[] due = {33, (2 * 31 + 1) * 31 + 4, 0, (33 * 31 + 4) * 31 + 5, 0, 0};
        for (int p : Edge.PROCESSES) {
            Edge.asked(due[p], Scene::busy, x -> x.state(p));
        }
    }

    private static void entriesFrom0To150() {
        int[][] due = {{0, 0, 0, 0, 0, 0}, {0, 0, 0, 1, 0, 0}, {}, {0, 0, 0, 2, 0, 0}};
        for (int p : new int[] {0, 1, 3}) {
            for (int of : Edge.PROCESSES) {
                Edge.asked(due[p][of], Scene::busy, x -> x.clock(p, of));
            }
        }
        CausalBroadcast x = Scene.oneSender();
        Edge.due(150, () -> x.clock(0, 0));
        Edge.due(0, () -> x.clock(1, 0));
        x.arriveAll(1);
        Edge.due(150, () -> x.clock(1, 0));
        x.install();
        Edge.due(0, () -> x.clock(0, 0));
    }

    private static void clocksOfNoProcess() {
        for (int p : Edge.NO_PROCESS) {
            Edge.refused(Edge.INDEX, x -> x.clock(p, 0));
            Edge.refused(Edge.INDEX, x -> x.clock(0, p));
            Edge.refused(Edge.INDEX, x -> x.clock(4, p));
        }
        // Others than members can be asked about, only not asked.
        Edge.asked(0, Scene::busy, x -> x.clock(0, 4));
        CausalBroadcast x = Scene.members(63);
        x.broadcast(5, 1);
        Edge.due(1, () -> x.clock(5, 5));
        Edge.due(0, () -> x.clock(5, 0));
        Edge.due(0, () -> x.clock(0, 5));
    }

    private static void buffersOf0To149() {
        Edge.asked(1, Scene::busy, x -> x.buffered(0));
        Edge.asked(0, Scene::busy, x -> x.buffered(1));
        Edge.asked(0, Scene::busy, x -> x.buffered(3));
        CausalBroadcast x = Scene.oneSender();
        for (int message = 149; message > 0; message--) {
            x.arrive(1, message);
            int due = 150 - message;
            Edge.due(due, () -> x.buffered(1));
        }
        x.arrive(1, 0);
        Edge.due(0, () -> x.buffered(1));
    }

    private static void eachBufferedMessage() {
        Edge.asked(3, Scene::busy, x -> x.bufferedMessage(0, 0));
        CausalBroadcast x = Scene.busy();
        x.broadcast(3, 6);
        x.arrive(0, 4);
        Edge.due(3, () -> x.bufferedMessage(0, 0));
        Edge.due(4, () -> x.bufferedMessage(0, 1));
        Edge.fails(Edge.ELEMENT, () -> x.bufferedMessage(0, 2));
    }

    private static void buffersAreAscending() {
        CausalBroadcast x = Scene.members(7);
        for (int i = 0; i < 6; i++) {
            x.broadcast(i % 2, i);
        }
        for (int message : new int[] {5, 2, 4, 3}) {
            x.arrive(2, message);
        }
        Edge.same("2 3 4 5", Scene.buffer(x, 2));
        // Those that leave move the others down.
        x.arrive(2, 0);
        Edge.same("3 5", Scene.buffer(x, 2));
        Edge.due(3, () -> x.bufferedMessage(2, 0));
        Edge.fails(Edge.ELEMENT, () -> x.bufferedMessage(2, 2));
    }

    private static void theGreatestBuffer() {
        CausalBroadcast x = Scene.oneSender();
        for (int message = 149; message > 0; message--) {
            x.arrive(1, message);
        }
        Edge.due(1, () -> x.bufferedMessage(1, 0));
        Edge.due(149, () -> x.bufferedMessage(1, 148));
        Edge.fails(Edge.ELEMENT, () -> x.bufferedMessage(1, 149));
    }

    private static void bufferedAtNoProcess() {
        for (int p : Edge.NO_PROCESS) {
            Edge.refused(Edge.INDEX, x -> x.bufferedMessage(p, 0));
            Edge.refused(Edge.INDEX, x -> x.bufferedMessage(p, -1));
        }
        for (int p : new int[] {0, 5}) {
            CausalBroadcast x = Scene.members(63);
            x.broadcast(3, 1);
            x.broadcast(3, 2);
            x.arrive(p, 1);
            Edge.due(1, () -> x.bufferedMessage(p, 0));
        }
    }

    private static void bufferedAtNoMember() {
        for (int p : NO_MEMBER) {
            Edge.refused(Edge.STATE, x -> x.bufferedMessage(p, 0));
            Edge.refused(Edge.STATE, x -> x.bufferedMessage(p, -1));
        }
    }

    private static void noSuchMessageIsBuffered() {
        for (int index : new int[] {-1, 1, 2, 3, 149, 150, Integer.MIN_VALUE, Integer.MAX_VALUE}) {
            Edge.refused(Edge.ELEMENT, x -> x.bufferedMessage(0, index));
        }
        for (int index : new int[] {-1, 0, 1}) {
            // An empty buffer.
            Edge.refused(Edge.ELEMENT, x -> x.bufferedMessage(1, index));
            Edge.refused(Edge.ELEMENT, CausalBroadcast::new, x -> x.bufferedMessage(1, index));
        }
        CausalBroadcast x = Scene.members(7);
        x.broadcast(0, 1);
        x.broadcast(0, 2);
        x.arrive(1, 1);
        x.requestLeave(0);
        x.install();
        Edge.fails(Edge.ELEMENT, () -> x.bufferedMessage(1, 0));
    }

    private static void from0To149Missing() {
        Edge.asked(0, Scene::busy, x -> x.missing(0, 2));
        Edge.asked(1, Scene::busy, x -> x.missing(0, 3));
        Edge.asked(0, Scene::busy, x -> x.missing(1, 3));
        Edge.asked(0, Scene::busy, x -> x.missing(3, 3));
        CausalBroadcast x = Scene.oneSender();
        Edge.due(149, () -> x.missing(1, 149));
        Edge.due(0, () -> x.missing(1, 0));
        Edge.due(0, () -> x.missing(0, 149));
        x.arrive(1, 1);
        // What waits in the buffer is not in the log.
        Edge.due(149, () -> x.missing(1, 149));
        x.arrive(1, 0);
        Edge.due(147, () -> x.missing(1, 149));
        x.arriveAll(1);
        Edge.due(0, () -> x.missing(1, 149));
    }

    private static void nothingSuchMisses() {
        for (int p : Edge.NO_PROCESS) {
            Edge.refused(Edge.INDEX, x -> x.missing(p, 3));
            Edge.refused(Edge.INDEX, x -> x.missing(p, 0));
        }
        for (int m : NO_MESSAGE) {
            Edge.refused(Edge.INDEX, x -> x.missing(0, m));
            Edge.refused(Edge.INDEX, x -> x.missing(2, m));
        }
        Edge.refused(Edge.INDEX, CausalBroadcast::new, x -> x.missing(0, 0));
        Edge.refused(Edge.INDEX, Scene::full, x -> x.missing(0, 150));
        CausalBroadcast x = Scene.members(63);
        x.broadcast(3, 1);
        x.broadcast(3, 2);
        Edge.due(1, () -> x.missing(0, 1));
        Edge.due(1, () -> x.missing(5, 1));
    }

    private static void missingAtNoMember() {
        for (int p : NO_MEMBER) {
            Edge.refused(Edge.STATE, x -> x.missing(p, 3));
            Edge.refused(Edge.STATE, x -> x.missing(p, 0));
        }
    }

    private static void missingOfAnEarlierView() {
        Edge.refused(Edge.STATE, x -> x.missing(0, 0));
        Edge.refused(Edge.STATE, x -> x.missing(0, 1));
        CausalBroadcast x = Scene.busy();
        x.install();
        x.broadcast(5, 1);
        Edge.fails(Edge.STATE, () -> x.missing(0, 3));
        Edge.due(0, () -> x.missing(0, 4));
    }

    private static void from0To150InTransit() {
        Edge.asked(1, Scene::busy, x -> x.inTransit(0));
        Edge.asked(1, Scene::busy, x -> x.inTransit(1));
        Edge.asked(0, Scene::busy, x -> x.inTransit(3));
        CausalBroadcast x = Scene.oneSender();
        Edge.due(150, () -> x.inTransit(1));
        Edge.due(0, () -> x.inTransit(0));
        x.arrive(1, 149);
        Edge.due(149, () -> x.inTransit(1));
        x.arrive(1, 149);
        Edge.due(149, () -> x.inTransit(1));
        x.arriveAll(1);
        Edge.due(0, () -> x.inTransit(1));
        CausalBroadcast y = Scene.oneSender();
        y.requestLeave(0);
        y.install();
        // None of them is of the current view.
        Edge.due(0, () -> y.inTransit(1));
        Edge.due(0, () -> y.logLength(1));
    }

    private static void pairsInBothLogs() {
        CausalBroadcast x = Scene.members(7);
        x.broadcast(0, 1);
        x.broadcast(1, 2);
        x.broadcast(2, 3);
        // The logs 0, 1 and 2 have nothing in common.
        Edge.due(0, () -> x.disagreements(0, 1));
        x.arriveAll(0);
        x.arrive(1, 0);
        x.arrive(2, 1);
        // Now they are 0 1 2, 1 0 and 2 1; the pairs with a message that one log lacks do not count.
        Edge.due(1, () -> x.disagreements(0, 1));
        Edge.due(1, () -> x.disagreements(1, 0));
        Edge.due(1, () -> x.disagreements(0, 2));
        Edge.due(0, () -> x.disagreements(1, 2));
        for (int p : Edge.PROCESSES) {
            Edge.due(0, () -> x.disagreements(p, p));
        }
        Edge.due(0, () -> x.disagreements(0, 5));
        Edge.due(0, () -> x.disagreements(5, 0));
        x.install();
        // 0 1 2, 1 0 2 and 2 1 0; earlier views count.
        Edge.due(1, () -> x.disagreements(0, 1));
        Edge.due(3, () -> x.disagreements(0, 2));
        Edge.due(2, () -> x.disagreements(2, 1));
        Edge.asked(1, Scene::busy, y -> y.disagreements(0, 1));
        Edge.asked(1, Scene::busy, y -> y.disagreements(3, 1));
        Edge.asked(0, ProcessEdges::waiting, y -> y.disagreements(1, 2));
        Edge.asked(0, ProcessEdges::waiting, y -> y.disagreements(2, 1));
    }

    /** The log of process 1 is 0 1 2, that of process 2 is 0 alone, with 2 in the buffer. */
    private static CausalBroadcast waiting() {
        CausalBroadcast x = Scene.members(7);
        x.broadcast(2, 1);
        x.broadcast(0, 2);
        x.broadcast(0, 3);
        x.arriveAll(1);
        x.arrive(2, 2);
        return x;
    }

    private static void from0To5625Pairs() {
        CausalBroadcast x = Scene.full();
        Edge.due(0, () -> x.disagreements(0, 1));
        x.arriveAll(0);
        x.arriveAll(1);
        // Each of the 75 messages of one before each of the 75 of the other one.
        Edge.due(5625, () -> x.disagreements(0, 1));
        Edge.due(5625, () -> x.disagreements(1, 0));
        Edge.due(0, () -> x.disagreements(1, 1));
        x.requestJoin(5);
        x.install();
        Edge.due(0, () -> x.disagreements(0, 5));
        Edge.due(5625, () -> x.disagreements(5, 1));
    }

    private static void noSuchProcessDisagrees() {
        for (int p : Edge.NO_PROCESS) {
            Edge.refused(Edge.INDEX, x -> x.disagreements(p, 0));
            Edge.refused(Edge.INDEX, x -> x.disagreements(0, p));
            Edge.refused(Edge.INDEX, x -> x.disagreements(p, p));
        }
        Edge.asked(0, Scene::busy, x -> x.disagreements(5, 0));
        Edge.asked(0, Scene::busy, x -> x.disagreements(0, 5));
    }

    private static void sharesFrom0To1() {
        CausalBroadcast x = Scene.members(7);
        x.broadcast(0, 1);
        x.broadcast(1, 2);
        Edge.due(0.0, () -> x.overlap(0, 1));
        Edge.due(1.0, () -> x.overlap(0, 0));
        Edge.due(0.0, () -> x.overlap(0, 2));
        x.arrive(0, 1);
        Edge.due(0.5, () -> x.overlap(0, 1));
        Edge.due(1.0, () -> x.overlap(1, 0));
        // Messages of earlier views count, and logs of others than members.
        Edge.asked(1.0, Scene::busy, y -> y.overlap(0, 1));
        Edge.asked(2.0 / 3.0, Scene::busy, y -> y.overlap(1, 0));
        Edge.asked(0.0, Scene::busy, y -> y.overlap(0, 5));
        Edge.asked(0.75, Scene::busy, y -> y.overlap(3, 1));
        Edge.asked(1.0 / 3.0, ProcessEdges::waiting, y -> y.overlap(1, 2));
    }

    private static void sharesAreQuotients() {
        CausalBroadcast x = Scene.oneSender();
        for (int shared = 0; shared < 150; shared++) {
            double due = shared / 150.0;
            Edge.due(due, () -> x.overlap(0, 1));
            x.arrive(1, shared);
        }
        Edge.due(1.0, () -> x.overlap(0, 1));
        CausalBroadcast y = new CausalBroadcast();
        y.broadcast(0, 1);
        y.arrive(1, 0);
        y.broadcast(0, 2);
        y.broadcast(0, 3);
        Edge.due(1.0 / 3.0, () -> y.overlap(0, 1));
    }

    private static void noSuchProcessOverlaps() {
        for (int p : Edge.NO_PROCESS) {
            Edge.refused(Edge.INDEX, x -> x.overlap(p, 0));
            Edge.refused(Edge.INDEX, x -> x.overlap(0, p));
            Edge.refused(Edge.INDEX, x -> x.overlap(2, p));
            Edge.refused(Edge.INDEX, x -> x.overlap(p, p));
        }
        CausalBroadcast x = Scene.members(33);
        x.broadcast(5, 1);
        Edge.due(0.0, () -> x.overlap(5, 0));
        x.arrive(0, 0);
        Edge.due(1.0, () -> x.overlap(0, 5));
    }

    private static void anEmptyLogHasNoShare() {
        for (int p : NO_MEMBER) {
            Edge.refused(Edge.ARITHMETIC, x -> x.overlap(p, 0));
            Edge.refused(Edge.ARITHMETIC, x -> x.overlap(p, p));
        }
        Edge.refused(Edge.ARITHMETIC, CausalBroadcast::new, x -> x.overlap(0, 1));
        // A log of one message is enough, and the second log may be empty.
        CausalBroadcast x = new CausalBroadcast();
        x.broadcast(0, 1);
        Edge.due(0.0, () -> x.overlap(0, 1));
        Edge.fails(Edge.ARITHMETIC, () -> x.overlap(1, 0));
    }
}
