import java.util.NoSuchElementException;

/** Promises 22 to 32: logs, states, clocks and buffers. */
public final class ProcessesTest {
    private static final Class<IndexOutOfBoundsException> INDEX = IndexOutOfBoundsException.class;
    private static final Class<IllegalStateException> STATE = IllegalStateException.class;
    private static final Class<NoSuchElementException> ELEMENT = NoSuchElementException.class;
    private static final int[] NO_PROCESS = {-1, 6, Integer.MIN_VALUE, Integer.MAX_VALUE};
    private static final int[] NO_MESSAGE = {-1, 5, 149, 150, Integer.MIN_VALUE, Integer.MAX_VALUE};

    public static void main(String[] args) {
        logs();
        logsWrongly();
        clocks();
        buffers();
        buffersWrongly();
        missing();
        disagreements();
        overlap();
        Check.end();
    }

    /**
     * The members 0, 1 and 2; the messages 0 and 1 of process 0, 2 and 3 of process 1 behind them, 4 of process 2.
     * Process 2 has 1, 2 and 3 in its buffer.
     */
    private static CausalBroadcast group() {
        CausalBroadcast x = new CausalBroadcast();
        x.reset(7);
        x.broadcast(0, 10);
        x.broadcast(0, 20);
        x.arriveAll(1);
        x.broadcast(1, 30);
        x.broadcast(1, 40);
        x.broadcast(2, 50);
        x.arrive(2, 3);
        x.arrive(2, 1);
        x.arrive(2, 2);
        return x;
    }

    private static void logs() {
        CausalBroadcast x = group();
        int[] lengths = {2, 4, 1, 0, 0, 0};
        int[] states = {330, (330 * 31 + 30) * 31 + 40, 50, 0, 0, 0};
        for (int p = 0; p < 6; p++) {
            int process = p;
            Check.asks("22 logLength(" + p + ")", x, lengths[p], () -> x.logLength(process));
            Check.asks("25 state(" + p + ")", x, states[p], () -> x.state(process));
        }
        for (int i = 0; i < 4; i++) {
            int index = i;
            Check.asks("23 logged(1, " + i + ")", x, i, () -> x.logged(1, index));
            Check.asks("24 position(1, " + i + ")", x, i, () -> x.position(1, index));
        }
        Check.asks("23 logged(2, 0)", x, 4, () -> x.logged(2, 0));
        Check.asks("24 position(2, 4)", x, 0, () -> x.position(2, 4));
        Check.refuses("24 position(2, 1), buffered", x, ELEMENT, () -> x.position(2, 1));
        Check.refuses("24 position(2, 0), away", x, ELEMENT, () -> x.position(2, 0));
        Check.refuses("24 position(5, 0), never a member", x, ELEMENT, () -> x.position(5, 0));
        x.arriveAll(2);
        x.install();
        Check.asks("24 position(2, 0), an earlier view", x, 1, () -> x.position(2, 0));
    }

    private static void logsWrongly() {
        CausalBroadcast x = group();
        for (int wrong : NO_PROCESS) {
            Check.refuses("22 logLength(" + wrong + ")", x, INDEX, () -> x.logLength(wrong));
            Check.refuses("23 logged(" + wrong + ", 0)", x, INDEX, () -> x.logged(wrong, 0));
            Check.refuses("24 position(" + wrong + ", 0)", x, INDEX, () -> x.position(wrong, 0));
            Check.refuses("25 state(" + wrong + ")", x, INDEX, () -> x.state(wrong));
        }
        for (int wrong : new int[] {-1, 2, 150, Integer.MIN_VALUE, Integer.MAX_VALUE}) {
            Check.refuses("23 logged(0, " + wrong + ")", x, INDEX, () -> x.logged(0, wrong));
        }
        Check.refuses("23 logged(5, 0), empty", x, INDEX, () -> x.logged(5, 0));
        for (int wrong : NO_MESSAGE) {
            Check.refuses("24 position(0, " + wrong + ")", x, INDEX, () -> x.position(0, wrong));
        }
    }

    private static void clocks() {
        CausalBroadcast x = group();
        int[][] due = {{2, 0, 0, 0, 0, 0}, {2, 2, 0, 0, 0, 0}, {0, 0, 1, 0, 0, 0}};
        for (int p = 0; p < 3; p++) {
            for (int q = 0; q < 6; q++) {
                int process = p;
                int of = q;
                Check.asks("26 clock(" + p + ", " + q + ")", x, due[p][q], () -> x.clock(process, of));
            }
        }
        for (int wrong : NO_PROCESS) {
            Check.refuses("26 clock(" + wrong + ", 0)", x, INDEX, () -> x.clock(wrong, 0));
            Check.refuses("26 clock(0, " + wrong + ")", x, INDEX, () -> x.clock(0, wrong));
            Check.refuses("26 clock(3, " + wrong + "), no member", x, INDEX, () -> x.clock(3, wrong));
        }
        Check.refuses("26 clock(3, 0), no member", x, STATE, () -> x.clock(3, 0));
        x.install();
        Check.asks("26 clock(1, 0), a new view", x, 0, () -> x.clock(1, 0));
    }

    private static void buffers() {
        CausalBroadcast x = group();
        int[] transit = {3, 1, 1};
        for (int p = 0; p < 3; p++) {
            int process = p;
            Check.asks("27 buffered(" + p + ")", x, p == 2 ? 3 : 0, () -> x.buffered(process));
            Check.asks("30 inTransit(" + p + ")", x, transit[p], () -> x.inTransit(process));
        }
        for (int i = 0; i < 3; i++) {
            int index = i;
            Check.asks("28 bufferedMessage(2, " + i + ")", x, i + 1, () -> x.bufferedMessage(2, index));
        }
        Check.due("11 arrive(2, 0)", 4, () -> x.arrive(2, 0));
        Check.asks("27 buffered(2)", x, 0, () -> x.buffered(2));
        Check.asks("30 inTransit(2)", x, 0, () -> x.inTransit(2));
        Check.refuses("28 bufferedMessage(2, 0), empty", x, ELEMENT, () -> x.bufferedMessage(2, 0));
        x.install();
        Check.asks("30 inTransit(1), a new view", x, 0, () -> x.inTransit(1));
    }

    private static void buffersWrongly() {
        CausalBroadcast x = group();
        for (int wrong : NO_PROCESS) {
            Check.refuses("27 buffered(" + wrong + ")", x, INDEX, () -> x.buffered(wrong));
            Check.refuses("28 bufferedMessage(" + wrong + ", 0)", x, INDEX, () -> x.bufferedMessage(wrong, 0));
            Check.refuses("30 inTransit(" + wrong + ")", x, INDEX, () -> x.inTransit(wrong));
        }
        Check.refuses("27 buffered(4), no member", x, STATE, () -> x.buffered(4));
        Check.refuses("28 bufferedMessage(4, 0), no member", x, STATE, () -> x.bufferedMessage(4, 0));
        Check.refuses("28 bufferedMessage(4, -1), no member", x, STATE, () -> x.bufferedMessage(4, -1));
        Check.refuses("30 inTransit(4), no member", x, STATE, () -> x.inTransit(4));
        for (int wrong : new int[] {-1, 3, 150, Integer.MIN_VALUE, Integer.MAX_VALUE}) {
            Check.refuses("28 bufferedMessage(2, " + wrong + ")", x, ELEMENT, () -> x.bufferedMessage(2, wrong));
        }
    }

    private static void missing() {
        CausalBroadcast x = group();
        int[][] due = {{0, 0, 0, 1, 0}, {0, 0, 0, 0, 0}, {0, 1, 2, 3, 0}};
        for (int p = 0; p < 3; p++) {
            for (int m = 0; m < 5; m++) {
                int process = p;
                int message = m;
                Check.asks("29 missing(" + p + ", " + m + ")", x, due[p][m], () -> x.missing(process, message));
            }
        }
        for (int wrong : NO_PROCESS) {
            Check.refuses("29 missing(" + wrong + ", 0)", x, INDEX, () -> x.missing(wrong, 0));
        }
        for (int wrong : NO_MESSAGE) {
            Check.refuses("29 missing(0, " + wrong + ")", x, INDEX, () -> x.missing(0, wrong));
            Check.refuses("29 missing(3, " + wrong + ")", x, INDEX, () -> x.missing(3, wrong));
        }
        Check.refuses("29 missing(3, 0), no member", x, STATE, () -> x.missing(3, 0));
        x.install();
        Check.refuses("29 missing(0, 3), an earlier view", x, STATE, () -> x.missing(0, 3));
    }

    private static void disagreements() {
        CausalBroadcast x = new CausalBroadcast();
        x.reset(7);
        x.broadcast(0, 1);
        x.broadcast(1, 2);
        x.broadcast(2, 3);
        x.arrive(0, 1);
        x.arrive(0, 2);
        x.arrive(1, 2);
        x.arrive(1, 0);
        x.arrive(2, 1);
        // The logs are 0 1 2, 1 2 0 and 2 1.
        Check.asks("31 disagreements(0, 1)", x, 2, () -> x.disagreements(0, 1));
        Check.asks("31 disagreements(1, 0)", x, 2, () -> x.disagreements(1, 0));
        Check.asks("31 disagreements(0, 2)", x, 1, () -> x.disagreements(0, 2));
        Check.asks("31 disagreements(2, 1)", x, 1, () -> x.disagreements(2, 1));
        Check.asks("31 disagreements(0, 0)", x, 0, () -> x.disagreements(0, 0));
        Check.asks("31 disagreements(0, 5)", x, 0, () -> x.disagreements(0, 5));
        x.arrive(2, 0);
        Check.asks("31 disagreements(0, 2)", x, 3, () -> x.disagreements(0, 2));
        x.install();
        Check.asks("31 disagreements(0, 2), a new view", x, 3, () -> x.disagreements(0, 2));
        disagreementsPassOverBuffers();
        for (int wrong : NO_PROCESS) {
            Check.refuses("31 disagreements(" + wrong + ", 0)", x, INDEX, () -> x.disagreements(wrong, 0));
            Check.refuses("31 disagreements(0, " + wrong + ")", x, INDEX, () -> x.disagreements(0, wrong));
        }
    }

    private static void disagreementsPassOverBuffers() {
        CausalBroadcast x = group();
        x.arrive(1, 4);
        x.broadcast(1, 60);
        x.arrive(2, 5);
        // Message 5 stands behind 4 in the log of process 1, and waits in the buffer of process 2.
        Check.asks("31 disagreements(1, 2)", x, 0, () -> x.disagreements(1, 2));
        Check.asks("32 overlap(1, 2)", x, 1.0 / 6.0, () -> x.overlap(1, 2));
    }

    private static void overlap() {
        CausalBroadcast x = new CausalBroadcast();
        x.reset(7);
        x.broadcast(0, 1);
        x.broadcast(0, 2);
        x.broadcast(1, 3);
        x.arrive(1, 0);
        x.arrive(0, 2);
        // The logs are 0 1 2, 2 0 and the empty one.
        Check.asks("32 overlap(0, 1)", x, 2.0 / 3.0, () -> x.overlap(0, 1));
        Check.asks("32 overlap(1, 0)", x, 1.0, () -> x.overlap(1, 0));
        Check.asks("32 overlap(0, 2)", x, 0.0, () -> x.overlap(0, 2));
        Check.asks("32 overlap(0, 0)", x, 1.0, () -> x.overlap(0, 0));
        Check.refuses("32 overlap(2, 0), empty", x, ArithmeticException.class, () -> x.overlap(2, 0));
        Check.refuses("32 overlap(5, 5), empty", x, ArithmeticException.class, () -> x.overlap(5, 5));
        for (int wrong : NO_PROCESS) {
            Check.refuses("32 overlap(" + wrong + ", 0)", x, INDEX, () -> x.overlap(wrong, 0));
            Check.refuses("32 overlap(2, " + wrong + "), empty", x, INDEX, () -> x.overlap(2, wrong));
        }
    }
}
