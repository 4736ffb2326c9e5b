import java.util.NoSuchElementException;

/** Promises 33 to 37: tables and stability. */
public final class KnowledgeTest {
    private static final Class<IndexOutOfBoundsException> INDEX = IndexOutOfBoundsException.class;
    private static final Class<IllegalStateException> STATE = IllegalStateException.class;
    private static final Class<NoSuchElementException> ELEMENT = NoSuchElementException.class;
    private static final int[] NO_PROCESS = {-1, 6, Integer.MIN_VALUE, Integer.MAX_VALUE};

    public static void main(String[] args) {
        tables();
        tablesWrongly();
        stability();
        stabilityWrongly();
        everywhere();
        unaware();
        alone();
        Check.end();
    }

    /** The members 0, 1 and 2; 0 sends message 0, 1 receives it and sends message 1, 2 receives both. */
    private static CausalBroadcast group() {
        CausalBroadcast x = new CausalBroadcast();
        x.reset(7);
        x.broadcast(0, 1);
        x.arrive(1, 0);
        x.broadcast(1, 2);
        x.arriveAll(2);
        return x;
    }

    private static void tables() {
        CausalBroadcast x = group();
        // For each member its lines for 0, 1 and 2, and in each the numbers for the senders 0 and 1.
        int[][][] due = {{{1, 0}, {0, 0}, {0, 0}}, {{1, 0}, {1, 1}, {0, 0}}, {{1, 0}, {1, 1}, {1, 1}}};
        for (int p = 0; p < 3; p++) {
            for (int q = 0; q < 6; q++) {
                for (int s = 0; s < 6; s++) {
                    int process = p;
                    int of = q;
                    int sender = s;
                    int want = q < 3 && s < 2 ? due[p][q][s] : 0;
                    Check.asks("33 known(" + p + ", " + q + ", " + s + ")", x, want,
                            () -> x.known(process, of, sender));
                }
            }
        }
        x.gossip(2, 0);
        Check.asks("33 known(0, 2, 1) after gossip", x, 1, () -> x.known(0, 2, 1));
        Check.asks("33 known(0, 0, 1), its clock", x, 0, () -> x.known(0, 0, 1));
        x.arrive(0, 1);
        Check.asks("33 known(0, 0, 1), its clock", x, 1, () -> x.known(0, 0, 1));
        x.install();
        Check.asks("33 known(2, 2, 0), a new view", x, 0, () -> x.known(2, 2, 0));
        Check.asks("33 known(0, 2, 1), a new view", x, 0, () -> x.known(0, 2, 1));
    }

    private static void tablesWrongly() {
        CausalBroadcast x = group();
        for (int wrong : NO_PROCESS) {
            Check.refuses("33 known(" + wrong + ", 0, 0)", x, INDEX, () -> x.known(wrong, 0, 0));
            Check.refuses("33 known(0, " + wrong + ", 0)", x, INDEX, () -> x.known(0, wrong, 0));
            Check.refuses("33 known(0, 0, " + wrong + ")", x, INDEX, () -> x.known(0, 0, wrong));
            Check.refuses("33 known(4, 0, " + wrong + ")", x, INDEX, () -> x.known(4, 0, wrong));
            Check.refuses("33 known(4, " + wrong + ", 0)", x, INDEX, () -> x.known(4, wrong, 0));
        }
        Check.refuses("33 known(4, 0, 0), no member", x, STATE, () -> x.known(4, 0, 0));
    }

    private static void stability() {
        CausalBroadcast x = group();
        Check.asks("34 isStable(2, 0)", x, true, () -> x.isStable(2, 0));
        Check.asks("34 isStable(2, 1)", x, false, () -> x.isStable(2, 1));
        Check.asks("34 isStable(1, 0)", x, false, () -> x.isStable(1, 0));
        Check.asks("34 isStable(0, 0)", x, false, () -> x.isStable(0, 0));
        int[] unstable = {1, 2, 1};
        for (int p = 0; p < 3; p++) {
            int process = p;
            Check.asks("35 unstable(" + p + ")", x, unstable[p], () -> x.unstable(process));
        }
        x.gossip(2, 1);
        Check.asks("34 isStable(1, 0) after gossip", x, true, () -> x.isStable(1, 0));
        Check.asks("35 unstable(1) after gossip", x, 1, () -> x.unstable(1));
        x.install();
        Check.asks("34 isStable(0, 1), an earlier view", x, true, () -> x.isStable(0, 1));
        Check.asks("35 unstable(0), a new view", x, 0, () -> x.unstable(0));
        x.broadcast(0, 3);
        Check.asks("34 isStable(0, 2)", x, false, () -> x.isStable(0, 2));
        Check.asks("35 unstable(0)", x, 1, () -> x.unstable(0));
    }

    private static void stabilityWrongly() {
        CausalBroadcast x = group();
        for (int wrong : NO_PROCESS) {
            Check.refuses("34 isStable(" + wrong + ", 0)", x, INDEX, () -> x.isStable(wrong, 0));
            Check.refuses("35 unstable(" + wrong + ")", x, INDEX, () -> x.unstable(wrong));
        }
        for (int wrong : new int[] {-1, 2, 150, Integer.MIN_VALUE, Integer.MAX_VALUE}) {
            Check.refuses("34 isStable(0, " + wrong + ")", x, INDEX, () -> x.isStable(0, wrong));
            Check.refuses("34 isStable(4, " + wrong + ")", x, INDEX, () -> x.isStable(4, wrong));
        }
        Check.refuses("34 isStable(4, 0), no member", x, STATE, () -> x.isStable(4, 0));
        Check.refuses("34 isStable(0, 1), not in the log", x, ELEMENT, () -> x.isStable(0, 1));
        Check.refuses("35 unstable(4), no member", x, STATE, () -> x.unstable(4));
        x.requestLeave(0);
        x.install();
        // Process 0 keeps its log, but it is not a member.
        Check.refuses("34 isStable(0, 0), left", x, STATE, () -> x.isStable(0, 0));
        Check.refuses("35 unstable(0), left", x, STATE, () -> x.unstable(0));
    }

    private static void everywhere() {
        CausalBroadcast x = group();
        Check.asks("36 isEverywhere(0)", x, true, () -> x.isEverywhere(0));
        Check.asks("36 isEverywhere(1)", x, false, () -> x.isEverywhere(1));
        for (int wrong : new int[] {-1, 2, 150, Integer.MIN_VALUE, Integer.MAX_VALUE}) {
            Check.refuses("36 isEverywhere(" + wrong + ")", x, INDEX, () -> x.isEverywhere(wrong));
        }
        x.requestLeave(0);
        x.requestJoin(5);
        x.install();
        // Only the members count: 0 has left without message 1, and 5 has got the log of process 1.
        Check.asks("36 isEverywhere(1), 0 has left", x, true, () -> x.isEverywhere(1));
        x.broadcast(5, 3);
        Check.asks("36 isEverywhere(2)", x, false, () -> x.isEverywhere(2));
    }

    private static void unaware() {
        CausalBroadcast x = group();
        Check.asks("37 firstUnaware(0)", x, 0, () -> x.firstUnaware(0));
        Check.refuses("37 firstUnaware(1), not everywhere", x, ELEMENT, () -> x.firstUnaware(1));
        for (int wrong : new int[] {-1, 2, 150, Integer.MIN_VALUE, Integer.MAX_VALUE}) {
            Check.refuses("37 firstUnaware(" + wrong + ")", x, INDEX, () -> x.firstUnaware(wrong));
        }
        x.gossip(2, 0);
        Check.asks("37 firstUnaware(0)", x, 1, () -> x.firstUnaware(0));
        x.gossip(2, 1);
        Check.refuses("37 firstUnaware(0), stable for all", x, ELEMENT, () -> x.firstUnaware(0));
        x.arrive(0, 1);
        x.gossip(0, 1);
        Check.asks("37 firstUnaware(1)", x, 2, () -> x.firstUnaware(1));
        x.install();
        Check.refuses("37 firstUnaware(1), an earlier view", x, ELEMENT, () -> x.firstUnaware(1));
    }

    private static void alone() {
        CausalBroadcast x = new CausalBroadcast();
        x.reset(8);
        x.broadcast(3, 1);
        Check.asks("34 isStable(3, 0), alone", x, true, () -> x.isStable(3, 0));
        Check.asks("35 unstable(3), alone", x, 0, () -> x.unstable(3));
        Check.asks("36 isEverywhere(0), alone", x, true, () -> x.isEverywhere(0));
        Check.refuses("37 firstUnaware(0), alone", x, ELEMENT, () -> x.firstUnaware(0));
    }
}
