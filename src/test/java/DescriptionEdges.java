import java.util.ArrayList;
import java.util.List;
import java.util.function.Function;

/** The description's sentences about processes, views, messages, delivery, arrival, states and exceptions. */
final class DescriptionEdges {
    private DescriptionEdges() {
    }

    static void all() {
        Edge.of(0, "An object is used for at most 512 calls after it has been made",
                DescriptionEdges::the512thCallStillAnswers);
        Edge.of(0, "There are 6 processes, numbered from 0.", DescriptionEdges::processesGoFrom0To5);
        Edge.of(0, "A view is a nonempty set of processes", DescriptionEdges::viewsAreNeverEmpty);
        Edge.of(0, "Views are numbered from 0 in the order in which they are installed; the last one is the current"
                + " view", DescriptionEdges::theLastViewIsTheCurrentOne);
        Edge.of(0, "a process is called a member if it is a member of the current view",
                DescriptionEdges::onlyTheCurrentViewMakesMembers);
        Edge.of(0, "which equals the set of the members whenever a view has been installed",
                DescriptionEdges::theProposedSetEqualsTheMembers);
        Edge.of(0, "A new object has the view 0 with the members 0 and 1.", DescriptionEdges::aNewObject);
        Edge.of(0, "The messages are numbered from 0 in the order in which they are sent",
                DescriptionEdges::messagesAreNumberedAsSent);
        Edge.of(0, "at most 150 can be sent after the object was created or reset",
                DescriptionEdges::only150MessagesAreSent);
        Edge.of(0, "A message has a sender, a payload, which is an int, the view in which it was sent",
                DescriptionEdges::payloadsAreAllInts);
        Edge.of(0, "the messages of one sender in one view have the sequence numbers 1, 2, 3, and so on",
                DescriptionEdges::sequencesBeginAt1);
        Edge.of(0, "A process has a log, the list of the messages that it has delivered, in their order.",
                DescriptionEdges::logsKeepTheOrderOfDelivery);
        Edge.of(0, "which is the number of messages of the current view in the member's log that this process sent",
                DescriptionEdges::clocksCountTheCurrentView);
        Edge.of(0, "A sender delivers its own message when it sends it.", DescriptionEdges::sendersDeliverAtOnce);
        Edge.of(0, "The clock of a message is the clock of the sender directly after that.",
                DescriptionEdges::messagesTakeTheClockAfterSending);
        Edge.of(0, "if it is not in the member's log", DescriptionEdges::nothingIsDeliveredTwice);
        Edge.of(0, "its sequence number is 1 plus the member's entry for the sender",
                DescriptionEdges::theNextOfASenderIsDeliverable);
        Edge.of(0, "for every other process the entry of the message's clock is at most the member's entry",
                DescriptionEdges::causesComeFirst);
        Edge.of(0, "Every message arrives at other members at times that the caller determines.",
                DescriptionEdges::nothingArrivesByItself);
        Edge.of(0, "A message that has arrived at a member and is not in its log is in its buffer.",
                DescriptionEdges::earlyMessagesWait);
        Edge.of(0, "messages are delivered from its buffer as long as one of them is deliverable",
                DescriptionEdges::allDeliverableLeaveTheBuffer);
        Edge.of(0, "the one with the lowest number first", DescriptionEdges::theLowestNumberLeavesFirst);
        Edge.of(0, "Each process has a state, an int that is 0 at first.", DescriptionEdges::statesBeginAt0);
        Edge.of(0, "its state becomes 31 times the state plus the payload", DescriptionEdges::statesTake31Times);
        Edge.of(0, "where the arithmetic wraps around", DescriptionEdges::statesWrapAround);
        Edge.of(0, "A method that throws an exception leaves the state unchanged",
                DescriptionEdges::everyRefusedCallChangesNothing);
        Edge.of(0, "If several exceptions apply, the one that is documented first is thrown.",
                DescriptionEdges::theFirstExceptionIsThrown);
        Edge.of(0, "Sets of processes are bit masks, bit p for process p.", DescriptionEdges::setsAreMasks);
        Edge.of(0, "Methods whose documentation does not mention a change only answer a question.",
                DescriptionEdges::questionsChangeNothing);
    }

    private static void the512thCallStillAnswers() {
        CausalBroadcast x = new CausalBroadcast();
        x.broadcast(0, 5);
        Edge.due(1, () -> x.arrive(1, 0));
        for (int call = 3; call <= 511; call++) {
            Edge.due(0, () -> x.arrive(1, 0));
        }
        Edge.due(509, () -> x.duplicates());
    }

    private static void processesGoFrom0To5() {
        CausalBroadcast x = Scene.members(63);
        for (int p : Edge.PROCESSES) {
            Edge.due(p, () -> x.broadcast(p, p + 1));
            Edge.due(p + 1, () -> x.state(p));
        }
        for (int p : Edge.NO_PROCESS) {
            Edge.refused(Edge.INDEX, y -> y.state(p));
        }
    }

    private static void viewsAreNeverEmpty() {
        Edge.refused(Edge.ARGUMENT, x -> x.reset(0));
        for (int p : Edge.PROCESSES) {
            Edge.refused(Edge.STATE, () -> Scene.members(1 << p), x -> x.requestLeave(p));
            CausalBroadcast x = Scene.members(1 << p);
            Edge.due(0, () -> x.install());
            Edge.due(1 << p, () -> x.membersOf(1));
        }
    }

    private static void theLastViewIsTheCurrentOne() {
        CausalBroadcast x = new CausalBroadcast();
        Edge.due(0, () -> x.view());
        x.requestJoin(4);
        x.install();
        Edge.due(1, () -> x.view());
        x.requestLeave(0);
        x.install();
        Edge.due(2, () -> x.view());
        Edge.due(3, () -> x.membersOf(0));
        Edge.due(19, () -> x.membersOf(1));
        Edge.due(18, () -> x.membersOf(2));
    }

    private static void onlyTheCurrentViewMakesMembers() {
        CausalBroadcast x = new CausalBroadcast();
        x.requestJoin(2);
        x.requestLeave(0);
        // Neither the wish to join nor the wish to leave counts before the view is installed.
        Edge.fails(Edge.STATE, () -> x.buffered(2));
        Edge.due(0, () -> x.buffered(0));
        x.install();
        Edge.due(0, () -> x.buffered(2));
        Edge.fails(Edge.STATE, () -> x.buffered(0));
    }

    private static void theProposedSetEqualsTheMembers() {
        CausalBroadcast x = new CausalBroadcast();
        Edge.due(3, () -> x.proposed());
        x.requestJoin(5);
        x.requestLeave(1);
        Edge.due(33, () -> x.proposed());
        x.install();
        Edge.due(33, () -> x.membersOf(1));
        Edge.due(33, () -> x.proposed());
        x.requestJoin(2);
        x.reset(8);
        Edge.due(8, () -> x.proposed());
    }

    private static void aNewObject() {
        CausalBroadcast x = new CausalBroadcast();
        Edge.due(0, () -> x.view());
        Edge.due(3, () -> x.membersOf(0));
        Edge.fails(Edge.INDEX, () -> x.membersOf(1));
    }

    private static void messagesAreNumberedAsSent() {
        CausalBroadcast x = new CausalBroadcast();
        Edge.due(0, () -> x.broadcast(1, 7));
        Edge.due(1, () -> x.broadcast(0, 8));
        x.install();
        // The numbers go on in the next view.
        Edge.due(2, () -> x.broadcast(1, 9));
        Edge.due(7, () -> x.message(0, 1));
        Edge.due(8, () -> x.message(1, 1));
        Edge.due(9, () -> x.message(2, 1));
        x.reset(3);
        Edge.due(0, () -> x.broadcast(0, 1));
    }

    private static void only150MessagesAreSent() {
        CausalBroadcast x = new CausalBroadcast();
        for (int turn = 0; turn < 2; turn++) {
            for (int message = 0; message < 150; message++) {
                int number = message;
                Edge.due(number, () -> x.broadcast(0, number));
                if (number == 70) {
                    x.install();
                }
            }
            Edge.fails(Edge.STATE, () -> x.broadcast(0, 150));
            Edge.due(150, () -> x.reset(3));
        }
        Edge.refused(Edge.STATE, Scene::full, y -> y.broadcast(1, 0));
    }

    private static void payloadsAreAllInts() {
        CausalBroadcast x = new CausalBroadcast();
        x.install();
        int[] payloads = {Integer.MIN_VALUE, Integer.MAX_VALUE, -1, 0, 1};
        for (int payload : payloads) {
            int number = x.broadcast(1, payload);
            Edge.due(1, () -> x.message(number, 0));
            Edge.due(payload, () -> x.message(number, 1));
            Edge.due(1, () -> x.message(number, 2));
        }
    }

    private static void sequencesBeginAt1() {
        CausalBroadcast x = new CausalBroadcast();
        int[] senders = {0, 1, 0, 0, 1};
        int[] sequences = {1, 1, 2, 3, 2};
        for (int turn = 0; turn < 2; turn++) {
            for (int i = 0; i < senders.length; i++) {
                int number = x.broadcast(senders[i], i);
                Edge.due(sequences[i], () -> x.message(number, 3));
            }
            x.install();
        }
    }

    private static void logsKeepTheOrderOfDelivery() {
        CausalBroadcast x = Scene.members(7);
        Edge.same("", Scene.log(x, 2));
        x.broadcast(0, 1);
        x.broadcast(1, 2);
        x.broadcast(2, 3);
        x.arrive(2, 1);
        x.arrive(2, 0);
        Edge.same("2 1 0", Scene.log(x, 2));
        x.arrive(0, 1);
        x.arrive(0, 2);
        Edge.same("0 1 2", Scene.log(x, 0));
    }

    private static void clocksCountTheCurrentView() {
        CausalBroadcast x = new CausalBroadcast();
        Edge.same("0 0 0 0 0 0", Scene.clock(x, 0));
        x.broadcast(0, 1);
        x.broadcast(1, 2);
        x.broadcast(1, 3);
        x.arriveAll(0);
        Edge.same("1 2 0 0 0 0", Scene.clock(x, 0));
        Edge.same("0 2 0 0 0 0", Scene.clock(x, 1));
        x.requestJoin(5);
        x.install();
        // The logs have three messages now, but none of this view.
        Edge.due(3, () -> x.logLength(5));
        Edge.same("0 0 0 0 0 0", Scene.clock(x, 0));
        Edge.same("0 0 0 0 0 0", Scene.clock(x, 5));
        x.broadcast(5, 4);
        x.arriveAll(0);
        Edge.same("0 0 0 0 0 1", Scene.clock(x, 0));
        Edge.same("0 0 0 0 0 1", Scene.clock(x, 5));
    }

    private static void sendersDeliverAtOnce() {
        CausalBroadcast x = new CausalBroadcast();
        x.broadcast(1, 6);
        Edge.same("0", Scene.log(x, 1));
        Edge.due(6, () -> x.state(1));
        Edge.due(0, () -> x.inTransit(1));
        Edge.due(0, () -> x.buffered(1));
        Edge.same("", Scene.log(x, 0));
    }

    private static void messagesTakeTheClockAfterSending() {
        CausalBroadcast x = new CausalBroadcast();
        x.broadcast(0, 1);
        Edge.same("1 0 0 0 0 0", Scene.messageClock(x, 0));
        x.arrive(1, 0);
        x.broadcast(1, 2);
        Edge.same("1 1 0 0 0 0", Scene.messageClock(x, 1));
        x.broadcast(1, 3);
        x.arriveAll(0);
        // What the sender delivers later leaves the message's clock alone.
        Edge.same("1 0 0 0 0 0", Scene.messageClock(x, 0));
        Edge.same("1 1 0 0 0 0", Scene.messageClock(x, 1));
        Edge.same("1 2 0 0 0 0", Scene.messageClock(x, 2));
    }

    private static void nothingIsDeliveredTwice() {
        CausalBroadcast x = new CausalBroadcast();
        x.broadcast(0, 4);
        Edge.due(1, () -> x.arrive(1, 0));
        Edge.due(0, () -> x.arrive(1, 0));
        Edge.due(0, () -> x.arriveAll(1));
        Edge.due(0, () -> x.install());
        Edge.same("0", Scene.log(x, 1));
        Edge.due(4, () -> x.state(1));
    }

    private static void theNextOfASenderIsDeliverable() {
        CausalBroadcast x = new CausalBroadcast();
        for (int i = 0; i < 4; i++) {
            x.broadcast(0, i);
        }
        // Numbers 1 and 2 above the entry, then the next one.
        Edge.due(0, () -> x.arrive(1, 1));
        Edge.due(2, () -> x.arrive(1, 0));
        Edge.due(0, () -> x.arrive(1, 3));
        Edge.due(2, () -> x.arrive(1, 2));
        Edge.same("0 1 2 3", Scene.log(x, 1));
    }

    private static void causesComeFirst() {
        for (int had = 0; had <= 3; had++) {
            // Message 3 of process 1 has the entry 2 for process 5; process 0 has had 0 to 3 messages of that.
            CausalBroadcast x = Scene.members(35);
            for (int i = 0; i < 3; i++) {
                x.broadcast(5, i);
            }
            x.arrive(1, 0);
            x.arrive(1, 1);
            x.broadcast(1, 9);
            for (int message = 0; message < had; message++) {
                x.arrive(0, message);
            }
            int due = had >= 2 ? 1 : 0;
            Edge.due(due, () -> x.arrive(0, 3));
            Edge.due(1 - due, () -> x.buffered(0));
        }
        for (int first : Edge.PROCESSES) {
            causesOfEachProcessComeFirst(first);
        }
    }

    private static void causesOfEachProcessComeFirst(int first) {
        CausalBroadcast x = Scene.members(63);
        int second = (first + 1) % 6;
        int third = (first + 2) % 6;
        x.broadcast(first, 1);
        x.arrive(second, 0);
        x.broadcast(second, 2);
        Edge.due(0, () -> x.arrive(third, 1));
        Edge.due(2, () -> x.arrive(third, 0));
    }

    private static void nothingArrivesByItself() {
        CausalBroadcast x = Scene.members(7);
        x.broadcast(0, 1);
        Edge.due(1, () -> x.inTransit(1));
        Edge.due(1, () -> x.inTransit(2));
        x.arrive(1, 0);
        x.gossip(1, 2);
        Edge.due(0, () -> x.inTransit(1));
        Edge.due(1, () -> x.inTransit(2));
        Edge.due(0, () -> x.logLength(2));
        Edge.due(0, () -> x.buffered(2));
    }

    private static void earlyMessagesWait() {
        CausalBroadcast x = new CausalBroadcast();
        x.broadcast(0, 1);
        x.broadcast(0, 2);
        Edge.same("", Scene.buffer(x, 1));
        x.arrive(1, 1);
        Edge.same("1", Scene.buffer(x, 1));
        Edge.same("", Scene.log(x, 1));
        x.arrive(1, 0);
        Edge.same("", Scene.buffer(x, 1));
        Edge.same("0 1", Scene.log(x, 1));
    }

    private static void allDeliverableLeaveTheBuffer() {
        CausalBroadcast x = Scene.oneSender();
        for (int message = 149; message > 0; message--) {
            int number = message;
            Edge.due(0, () -> x.arrive(1, number));
        }
        Edge.due(149, () -> x.buffered(1));
        Edge.due(150, () -> x.arrive(1, 0));
        Edge.due(0, () -> x.buffered(1));
        // What still lacks a cause stays.
        CausalBroadcast y = new CausalBroadcast();
        for (int i = 0; i < 4; i++) {
            y.broadcast(0, i);
        }
        y.arrive(1, 3);
        y.arrive(1, 1);
        Edge.due(2, () -> y.arrive(1, 0));
        Edge.same("3", Scene.buffer(y, 1));
    }

    private static void theLowestNumberLeavesFirst() {
        CausalBroadcast x = Scene.members(15);
        x.broadcast(0, 1);
        x.arrive(1, 0);
        x.broadcast(1, 2);
        x.broadcast(0, 3);
        x.broadcast(1, 4);
        x.arrive(2, 0);
        x.broadcast(2, 5);
        for (int message : new int[] {4, 3, 2, 1}) {
            Edge.due(0, () -> x.arrive(3, message));
        }
        Edge.due(5, () -> x.arrive(3, 0));
        Edge.same("0 1 2 3 4", Scene.log(x, 3));
    }

    private static void statesBeginAt0() {
        CausalBroadcast x = new CausalBroadcast();
        for (int p : Edge.PROCESSES) {
            Edge.due(0, () -> x.state(p));
        }
        x.broadcast(0, 0);
        Edge.due(0, () -> x.state(0));
    }

    private static void statesTake31Times() {
        CausalBroadcast x = new CausalBroadcast();
        x.broadcast(0, 1);
        Edge.due(1, () -> x.state(0));
        x.broadcast(0, 0);
        Edge.due(31, () -> x.state(0));
        x.broadcast(0, -31);
        Edge.due(930, () -> x.state(0));
        // Arrivals count in the order of delivery, forced deliveries as well.
        x.arrive(1, 1);
        Edge.due(0, () -> x.state(1));
        x.arrive(1, 0);
        Edge.due(31, () -> x.state(1));
        x.install();
        Edge.due(930, () -> x.state(1));
    }

    private static void statesWrapAround() {
        // 31 * 69273666 = 2147483646, one below the greatest int.
        int[][] rows = {
            {69273666, 1, 2147483647}, {69273666, 2, -2147483648}, {69273667, 0, -2147483619},
            {-69273666, -2, -2147483648}, {-69273666, -3, 2147483647},
            {Integer.MAX_VALUE, Integer.MIN_VALUE, -31}, {Integer.MIN_VALUE, Integer.MAX_VALUE, -1}};
        for (int[] row : rows) {
            CausalBroadcast x = new CausalBroadcast();
            x.broadcast(0, row[0]);
            Edge.due(row[0], () -> x.state(0));
            x.broadcast(0, row[1]);
            Edge.due(row[2], () -> x.state(0));
            x.arriveAll(1);
            Edge.due(row[2], () -> x.state(1));
        }
    }

    private static void everyRefusedCallChangesNothing() {
        for (Function<CausalBroadcast, Object> call : refusedFor(Edge.INDEX)) {
            Edge.refused(Edge.INDEX, call);
        }
        for (Function<CausalBroadcast, Object> call : refusedFor(Edge.STATE)) {
            Edge.refused(Edge.STATE, call);
        }
        Edge.refused(Edge.ARGUMENT, x -> x.reset(64));
        Edge.refused(Edge.ARGUMENT, x -> x.message(0, 4));
        Edge.refused(Edge.ARGUMENT, x -> x.append((char) 127));
        Edge.refused(Edge.ELEMENT, x -> x.position(0, 3));
        Edge.refused(Edge.ELEMENT, x -> x.bufferedMessage(0, 1));
        Edge.refused(Edge.ELEMENT, x -> x.isStable(0, 3));
        Edge.refused(Edge.ELEMENT, x -> x.firstUnaware(3));
        Edge.refused(Edge.ARITHMETIC, x -> x.overlap(2, 0));
        Edge.refused(Edge.ELEMENT, CausalBroadcast::new, x -> x.errorPosition());
        Edge.refused(Edge.STATE, CausalBroadcast::new, x -> x.restoreSnapshot());
        Edge.refused(Edge.STATE, Scene::lastView, x -> x.install());
        Edge.refused(Edge.STATE, Scene::full, x -> x.broadcast(0, 1));
        Edge.refused(Edge.STATE, Scene::full, x -> x.append('i'));
    }

    /** Calls that the busy group refuses. */
    private static List<Function<CausalBroadcast, Object>> refusedFor(Class<?> exception) {
        List<Function<CausalBroadcast, Object>> calls = new ArrayList<>();
        if (exception == Edge.STATE) {
            calls.addAll(List.of(x -> x.requestJoin(5), x -> x.requestLeave(2), x -> x.broadcast(5, 1),
                    x -> x.arrive(2, 3), x -> x.arrive(0, 1), x -> x.arriveAll(5), x -> x.gossip(0, 2),
                    x -> x.gossip(0, 0), x -> x.clock(2, 0), x -> x.buffered(4)));
            calls.addAll(List.of(x -> x.bufferedMessage(5, 0), x -> x.missing(2, 3), x -> x.missing(0, 0),
                    x -> x.inTransit(2), x -> x.known(5, 0, 0), x -> x.isStable(4, 0), x -> x.unstable(2)));
            return calls;
        }
        calls.addAll(List.of(x -> x.membersOf(2), x -> x.forcedIn(-1), x -> x.requestJoin(6),
                x -> x.requestLeave(-1), x -> x.broadcast(6, 1), x -> x.arrive(0, 4), x -> x.arriveAll(6),
                x -> x.gossip(0, 6), x -> x.message(4, 0), x -> x.messageClock(0, 6)));
        calls.addAll(List.of(x -> x.isCause(0, 4), x -> x.causes(-1), x -> x.concurrent(4), x -> x.longestChain(2),
                x -> x.logLength(6), x -> x.logged(0, 2), x -> x.position(6, 0), x -> x.state(-1),
                x -> x.clock(0, 6), x -> x.buffered(6)));
        calls.addAll(List.of(x -> x.bufferedMessage(6, 0), x -> x.missing(0, 4), x -> x.inTransit(-1),
                x -> x.disagreements(6, 0), x -> x.overlap(0, 6), x -> x.known(0, 0, 6), x -> x.isStable(0, 4),
                x -> x.unstable(6), x -> x.isEverywhere(4), x -> x.firstUnaware(-1)));
        return calls;
    }

    private static void theFirstExceptionIsThrown() {
        Edge.refused(Edge.INDEX, x -> x.requestLeave(6));
        Edge.refused(Edge.INDEX, Scene::full, x -> x.broadcast(6, 0));
        Edge.refused(Edge.INDEX, x -> x.arrive(6, 0));
        Edge.refused(Edge.INDEX, x -> x.arrive(2, 4));
        Edge.refused(Edge.INDEX, x -> x.gossip(6, 6));
        Edge.refused(Edge.INDEX, x -> x.gossip(2, 6));
        Edge.refused(Edge.INDEX, x -> x.gossip(6, 2));
        Edge.refused(Edge.INDEX, x -> x.message(4, 4));
        Edge.refused(Edge.INDEX, x -> x.position(6, 3));
        Edge.refused(Edge.INDEX, x -> x.clock(2, 6));
        Edge.refused(Edge.INDEX, x -> x.bufferedMessage(6, 9));
        Edge.refused(Edge.STATE, x -> x.bufferedMessage(2, 9));
        Edge.refused(Edge.INDEX, x -> x.missing(2, 4));
        Edge.refused(Edge.INDEX, x -> x.missing(6, 0));
        Edge.refused(Edge.INDEX, x -> x.overlap(2, 6));
        Edge.refused(Edge.INDEX, x -> x.known(2, 6, 0));
        Edge.refused(Edge.INDEX, x -> x.known(2, 0, 6));
        Edge.refused(Edge.INDEX, x -> x.isStable(2, 4));
        Edge.refused(Edge.STATE, x -> x.isStable(2, 3));
        Edge.refused(Edge.ARGUMENT, Scene::full, x -> x.append((char) 31));
    }

    private static void setsAreMasks() {
        for (int p : Edge.PROCESSES) {
            CausalBroadcast x = Scene.members(1 << p);
            for (int q : Edge.PROCESSES) {
                if (p == q) {
                    Edge.due(0, () -> x.buffered(q));
                } else {
                    Edge.fails(Edge.STATE, () -> x.buffered(q));
                }
            }
            int next = (p + 1) % 6;
            x.requestJoin(next);
            Edge.due((1 << p) + (1 << next), () -> x.proposed());
            x.install();
            Edge.due((1 << p) + (1 << next), () -> x.membersOf(1));
        }
    }

    private static void questionsChangeNothing() {
        CausalBroadcast x = Scene.busy();
        for (int turn = 0; turn < 2; turn++) {
            for (int m = -1; m <= 4; m++) {
                for (int other = -1; other <= 4; other++) {
                    Picture.ask(x, "isCause", m, other);
                }
            }
            // A picture asks all the other questions, with good and with wrong numbers.
            Picture.of(x);
        }
        x.saveSnapshot();
        CausalBroadcast y = Scene.busy();
        y.saveSnapshot();
        Edge.same(Picture.whole(y), Picture.whole(x));
        Edge.same(Picture.whole(Scene.busy()), Picture.whole(asked(Scene.busy())));
    }

    private static CausalBroadcast asked(CausalBroadcast x) {
        Picture.of(x);
        return x;
    }
}
