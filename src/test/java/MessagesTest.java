/** Promises 10 to 21: broadcast to duplicates. */
public final class MessagesTest {
    private static final Class<IndexOutOfBoundsException> INDEX = IndexOutOfBoundsException.class;
    private static final Class<IllegalStateException> STATE = IllegalStateException.class;
    private static final int[] NO_PROCESS = {-1, 6, Integer.MIN_VALUE, Integer.MAX_VALUE};

    public static void main(String[] args) {
        broadcast();
        broadcastHasAnEnd();
        arrive();
        arriveWrongly();
        arriveAll();
        gossip();
        gossipKeepsTheOwnLine();
        messageNumbers();
        causality();
        concurrency();
        chains();
        Check.end();
    }

    private static void broadcast() {
        CausalBroadcast x = new CausalBroadcast();
        for (int wrong : NO_PROCESS) {
            Check.refuses("10 broadcast(" + wrong + ", 1)", x, INDEX, () -> x.broadcast(wrong, 1));
        }
        Check.refuses("10 broadcast(2, 1), no member", x, STATE, () -> x.broadcast(2, 1));
        Check.due("10 broadcast(0, max)", 0, () -> x.broadcast(0, Integer.MAX_VALUE));
        Check.due("10 broadcast(0, min)", 1, () -> x.broadcast(0, Integer.MIN_VALUE));
        Check.due("10 state(0), wrapped", 31 * Integer.MAX_VALUE + Integer.MIN_VALUE, () -> x.state(0));
        Check.due("10 logLength(0)", 2, () -> x.logLength(0));
        Check.due("10 clock(0, 0)", 2, () -> x.clock(0, 0));
        Check.due("10 inTransit(1)", 2, () -> x.inTransit(1));
        Check.due("10 inTransit(0)", 0, () -> x.inTransit(0));
        Check.due("10 broadcast(1, 0)", 2, () -> x.broadcast(1, 0));
        Check.due("10 message(2, 3)", 1, () -> x.message(2, 3));
        Check.asks("14 messageCount()", x, 3, () -> x.messageCount());
        x.requestLeave(0);
        Check.due("10 broadcast(0, 1), still a member", 3, () -> x.broadcast(0, 1));
        x.install();
        Check.refuses("10 broadcast(0, 1), left", x, STATE, () -> x.broadcast(0, 1));
    }

    private static void broadcastHasAnEnd() {
        CausalBroadcast x = new CausalBroadcast();
        for (int i = 0; i < 150; i++) {
            int number = i;
            Check.due("10 broadcast", number, () -> x.broadcast(number % 2, number));
        }
        Check.due("14 messageCount()", 150, () -> x.messageCount());
        Check.refuses("10 the 151st broadcast", x, STATE, () -> x.broadcast(0, 1));
        Check.refuses("10 broadcast(6, 1), full", x, INDEX, () -> x.broadcast(6, 1));
        Check.refuses("10 broadcast(5, 1), full", x, STATE, () -> x.broadcast(5, 1));
        Check.due("12 arriveAll(0)", 75, () -> x.arriveAll(0));
        Check.due("22 logLength(0)", 150, () -> x.logLength(0));
        Check.due("16 messageClock(149, 1)", 75, () -> x.messageClock(149, 1));
        Check.due("9 install()", 75, () -> x.install());
        Check.refuses("10 broadcast in the next view", x, STATE, () -> x.broadcast(0, 1));
    }

    private static void arrive() {
        CausalBroadcast x = new CausalBroadcast();
        x.reset(7);
        x.broadcast(0, 1);
        x.arrive(1, 0);
        x.broadcast(1, 2);
        x.broadcast(0, 3);
        x.broadcast(2, 4);
        Check.due("11 arrive(2, 2), early", 0, () -> x.arrive(2, 2));
        Check.due("11 arrive(2, 1), early", 0, () -> x.arrive(2, 1));
        Check.due("27 buffered(2)", 2, () -> x.buffered(2));
        Check.due("11 arrive(2, 2) again", 0, () -> x.arrive(2, 2));
        Check.due("21 duplicates()", 1, () -> x.duplicates());
        Check.due("11 arrive(2, 0)", 3, () -> x.arrive(2, 0));
        int[] log = {3, 0, 1, 2};
        for (int i = 0; i < 4; i++) {
            int index = i;
            Check.due("11 logged(2, " + i + "), lowest first", log[i], () -> x.logged(2, index));
        }
        Check.due("27 buffered(2)", 0, () -> x.buffered(2));
        Check.due("11 arrive(2, 0) again", 0, () -> x.arrive(2, 0));
        Check.due("11 arrive(2, 3), its own", 0, () -> x.arrive(2, 3));
        Check.asks("21 duplicates()", x, 3, () -> x.duplicates());
        Check.due("22 logLength(2)", 4, () -> x.logLength(2));
        Check.due("11 arrive(0, 3)", 1, () -> x.arrive(0, 3));
        Check.due("11 arrive(0, 1)", 1, () -> x.arrive(0, 1));
        Check.due("31 disagreements(0, 2)", 3, () -> x.disagreements(0, 2));
    }

    private static void arriveWrongly() {
        CausalBroadcast x = new CausalBroadcast();
        Check.refuses("11 arrive(1, 0), none sent", x, INDEX, () -> x.arrive(1, 0));
        x.broadcast(0, 1);
        for (int wrong : NO_PROCESS) {
            Check.refuses("11 arrive(" + wrong + ", 0)", x, INDEX, () -> x.arrive(wrong, 0));
        }
        for (int wrong : new int[] {-1, 1, 150, Integer.MIN_VALUE, Integer.MAX_VALUE}) {
            Check.refuses("11 arrive(1, " + wrong + ")", x, INDEX, () -> x.arrive(1, wrong));
            Check.refuses("11 arrive(5, " + wrong + "), no member", x, INDEX, () -> x.arrive(5, wrong));
        }
        Check.refuses("11 arrive(5, 0), no member", x, STATE, () -> x.arrive(5, 0));
        x.install();
        Check.refuses("11 arrive(1, 0), an earlier view", x, STATE, () -> x.arrive(1, 0));
        Check.refuses("11 arrive(0, 0), an earlier view", x, STATE, () -> x.arrive(0, 0));
        x.broadcast(0, 2);
        Check.due("11 arrive(1, 1)", 1, () -> x.arrive(1, 1));
    }

    private static void arriveAll() {
        CausalBroadcast x = new CausalBroadcast();
        x.reset(7);
        for (int wrong : NO_PROCESS) {
            Check.refuses("12 arriveAll(" + wrong + ")", x, INDEX, () -> x.arriveAll(wrong));
        }
        Check.refuses("12 arriveAll(3), no member", x, STATE, () -> x.arriveAll(3));
        Check.due("12 arriveAll(0), none", 0, () -> x.arriveAll(0));
        x.broadcast(0, 1);
        x.broadcast(1, 2);
        x.broadcast(0, 3);
        x.broadcast(2, 4);
        x.arrive(2, 2);
        // Message 0 brings the buffered message 2 with it, before message 1 arrives.
        Check.due("12 arriveAll(2)", 3, () -> x.arriveAll(2));
        int[] log = {3, 0, 2, 1};
        for (int i = 0; i < 4; i++) {
            int index = i;
            Check.due("12 logged(2, " + i + ")", log[i], () -> x.logged(2, index));
        }
        Check.due("21 duplicates()", 0, () -> x.duplicates());
        Check.due("30 inTransit(2)", 0, () -> x.inTransit(2));
        Check.due("12 arriveAll(2) again", 0, () -> x.arriveAll(2));
        Check.due("21 duplicates()", 0, () -> x.duplicates());
        Check.due("11 arrive(2, 1), arrived with all", 0, () -> x.arrive(2, 1));
        Check.due("21 duplicates()", 1, () -> x.duplicates());
    }

    private static void gossip() {
        CausalBroadcast x = new CausalBroadcast();
        x.reset(15);
        x.broadcast(0, 1);
        x.broadcast(0, 2);
        x.arriveAll(1);
        x.broadcast(1, 3);
        for (int wrong : NO_PROCESS) {
            Check.refuses("13 gossip(" + wrong + ", 0)", x, INDEX, () -> x.gossip(wrong, 0));
            Check.refuses("13 gossip(0, " + wrong + ")", x, INDEX, () -> x.gossip(0, wrong));
            Check.refuses("13 gossip(5, " + wrong + ")", x, INDEX, () -> x.gossip(5, wrong));
        }
        Check.refuses("13 gossip(0, 4), no member", x, STATE, () -> x.gossip(0, 4));
        Check.refuses("13 gossip(4, 0), no member", x, STATE, () -> x.gossip(4, 0));
        Check.refuses("13 gossip(1, 1)", x, STATE, () -> x.gossip(1, 1));
        Check.refuses("13 gossip(4, 4)", x, STATE, () -> x.gossip(4, 4));
        Check.due("13 gossip(1, 2)", 3, () -> x.gossip(1, 2));
        Check.due("33 known(2, 0, 0)", 2, () -> x.known(2, 0, 0));
        Check.due("33 known(2, 1, 0)", 2, () -> x.known(2, 1, 0));
        Check.due("33 known(2, 1, 1)", 1, () -> x.known(2, 1, 1));
        Check.due("33 known(2, 2, 0)", 0, () -> x.known(2, 2, 0));
        Check.due("13 gossip(1, 2) again", 0, () -> x.gossip(1, 2));
        Check.due("13 gossip(0, 2), nothing greater", 0, () -> x.gossip(0, 2));
        Check.due("33 known(2, 0, 0)", 2, () -> x.known(2, 0, 0));
        Check.due("13 gossip(2, 3)", 3, () -> x.gossip(2, 3));
        Check.due("33 known(3, 1, 1), told on", 1, () -> x.known(3, 1, 1));
        Check.due("22 logLength(3)", 0, () -> x.logLength(3));
    }

    private static void gossipKeepsTheOwnLine() {
        CausalBroadcast x = new CausalBroadcast();
        x.broadcast(0, 1);
        x.arrive(1, 0);
        x.broadcast(1, 2);
        x.arrive(0, 1);
        Check.due("13 gossip(0, 1)", 1, () -> x.gossip(0, 1));
        Check.due("33 known(1, 0, 1)", 1, () -> x.known(1, 0, 1));
        x.broadcast(1, 3);
        Check.due("13 gossip(0, 1)", 0, () -> x.gossip(0, 1));
        Check.due("33 known(1, 1, 1), its clock", 2, () -> x.known(1, 1, 1));
        Check.due("26 clock(1, 1)", 2, () -> x.clock(1, 1));
    }

    private static void messageNumbers() {
        CausalBroadcast x = new CausalBroadcast();
        x.broadcast(1, -9);
        x.broadcast(1, 8);
        x.requestJoin(4);
        x.install();
        x.broadcast(4, 7);
        int[][] due = {{1, -9, 0, 1}, {1, 8, 0, 2}, {4, 7, 1, 1}};
        int[][] clocks = {{0, 1, 0, 0, 0, 0}, {0, 2, 0, 0, 0, 0}, {0, 0, 0, 0, 1, 0}};
        for (int m = 0; m < 3; m++) {
            int message = m;
            for (int w = 0; w < 4; w++) {
                int what = w;
                Check.asks("15 message(" + m + ", " + w + ")", x, due[m][w], () -> x.message(message, what));
            }
            for (int p = 0; p < 6; p++) {
                int process = p;
                Check.asks("16 messageClock(" + m + ", " + p + ")", x, clocks[m][p],
                        () -> x.messageClock(message, process));
            }
        }
        for (int wrong : new int[] {-1, 4, Integer.MIN_VALUE, Integer.MAX_VALUE}) {
            Check.refuses("15 message(0, " + wrong + ")", x, IllegalArgumentException.class,
                    () -> x.message(0, wrong));
        }
        for (int wrong : new int[] {-1, 3, 150, Integer.MIN_VALUE, Integer.MAX_VALUE}) {
            Check.refuses("15 message(" + wrong + ", 0)", x, INDEX, () -> x.message(wrong, 0));
            Check.refuses("15 message(" + wrong + ", 4)", x, INDEX, () -> x.message(wrong, 4));
            Check.refuses("16 messageClock(" + wrong + ", 0)", x, INDEX, () -> x.messageClock(wrong, 0));
        }
        for (int wrong : NO_PROCESS) {
            Check.refuses("16 messageClock(0, " + wrong + ")", x, INDEX, () -> x.messageClock(0, wrong));
        }
    }

    /** Process 0 sends 0 and 1, process 1 answers 0 by 2, process 2 sends 3 alone; then 4 is in the next view. */
    private static CausalBroadcast fork() {
        CausalBroadcast x = new CausalBroadcast();
        x.reset(7);
        x.broadcast(0, 1);
        x.broadcast(0, 2);
        x.arrive(1, 0);
        x.broadcast(1, 3);
        x.broadcast(2, 4);
        x.install();
        x.broadcast(0, 5);
        return x;
    }

    private static void causality() {
        CausalBroadcast x = fork();
        String causes = "0>1 0>2 ";
        StringBuilder found = new StringBuilder();
        for (int a = 0; a < 5; a++) {
            for (int b = 0; b < 5; b++) {
                found.append(x.isCause(a, b) ? a + ">" + b + " " : "");
            }
        }
        Check.same("17 isCause of all", causes, found.toString());
        int[] due = {0, 1, 1, 0, 0};
        for (int m = 0; m < 5; m++) {
            int message = m;
            Check.asks("18 causes(" + m + ")", x, due[m], () -> x.causes(message));
            Check.asks("17 isCause(m, m)", x, false, () -> x.isCause(message, message));
        }
        for (int wrong : new int[] {-1, 5, 150, Integer.MIN_VALUE, Integer.MAX_VALUE}) {
            Check.refuses("17 isCause(" + wrong + ", 0)", x, INDEX, () -> x.isCause(wrong, 0));
            Check.refuses("17 isCause(0, " + wrong + ")", x, INDEX, () -> x.isCause(0, wrong));
            Check.refuses("17 isCause of one", x, INDEX, () -> x.isCause(wrong, wrong));
            Check.refuses("18 causes(" + wrong + ")", x, INDEX, () -> x.causes(wrong));
        }
    }

    private static void concurrency() {
        CausalBroadcast x = fork();
        int[] due = {1, 2, 2, 3, 0};
        for (int m = 0; m < 5; m++) {
            int message = m;
            Check.asks("19 concurrent(" + m + ")", x, due[m], () -> x.concurrent(message));
        }
        for (int wrong : new int[] {-1, 5, 150, Integer.MIN_VALUE, Integer.MAX_VALUE}) {
            Check.refuses("19 concurrent(" + wrong + ")", x, INDEX, () -> x.concurrent(wrong));
        }
    }

    private static void chains() {
        CausalBroadcast x = fork();
        Check.asks("20 longestChain(0)", x, 2, () -> x.longestChain(0));
        Check.asks("20 longestChain(1)", x, 1, () -> x.longestChain(1));
        x.install();
        Check.asks("20 longestChain(2), none sent", x, 0, () -> x.longestChain(2));
        for (int wrong : new int[] {-1, 3, 21, Integer.MIN_VALUE, Integer.MAX_VALUE}) {
            Check.refuses("20 longestChain(" + wrong + ")", x, INDEX, () -> x.longestChain(wrong));
        }
        x.reset(3);
        Check.due("20 longestChain(0) after reset", 0, () -> x.longestChain(0));
        x.broadcast(0, 0);
        Check.due("20 longestChain(0), one message", 1, () -> x.longestChain(0));
        for (int i = 1; i < 5; i++) {
            x.broadcast(0, i);
        }
        x.broadcast(1, 1);
        x.arriveAll(1);
        x.broadcast(1, 2);
        // 6 causes, but the longest chain goes through the five of process 0.
        Check.due("18 causes(6)", 6, () -> x.causes(6));
        Check.due("20 longestChain(0)", 6, () -> x.longestChain(0));
    }
}
