/** Groups from which the cases start. */
final class Scene {
    private Scene() {
    }

    static void write(CausalBroadcast x, String text) {
        for (int i = 0; i < text.length(); i++) {
            x.append(text.charAt(i));
        }
    }

    static CausalBroadcast members(int set) {
        CausalBroadcast x = new CausalBroadcast();
        x.reset(set);
        return x;
    }

    /**
     * Something of everything: view 1 with the members 0, 1 and 3, to which 5 is proposed; 2 has left with an empty
     * log and 4 was never there. Messages 0 and 1 are of view 0, 2 and 3 of view 1, both sent by 3. The logs are 0 1 at
     * process 0, which has 3 in its buffer and 2 in transit; 1 0 2 at process 1, with 3 in transit; 0 1 2 3 at process
     * 3. There are a duplicate, an error position of 2, a snapshot with two messages, and a script in the input.
     */
    static CausalBroadcast busy() {
        CausalBroadcast x = new CausalBroadcast();
        write(x, "i;?");
        Check.due("39 run() of i;?", "IllegalArgumentException", () -> x.run());
        x.reset(7);
        x.broadcast(0, 1);
        x.broadcast(1, 2);
        x.arrive(0, 1);
        x.saveSnapshot();
        x.requestJoin(3);
        x.requestLeave(2);
        x.install();
        x.broadcast(3, 4);
        x.broadcast(3, 5);
        x.arrive(0, 3);
        x.arrive(1, 2);
        x.arrive(1, 2);
        x.gossip(1, 0);
        x.requestJoin(5);
        write(x, "b0=7;j2;i");
        return x;
    }

    /** The members 0 and 1 have sent all 150 messages in turns, and a script fills the input. */
    static CausalBroadcast full() {
        CausalBroadcast x = new CausalBroadcast();
        x.broadcast(0, 9);
        x.saveSnapshot();
        for (int i = 1; i < 150; i++) {
            x.broadcast(i % 2, i);
        }
        write(x, "j5;l5;".repeat(9) + "g0,1;i");
        return x;
    }

    /** Process 0 has sent all 150 messages to process 1. */
    static CausalBroadcast oneSender() {
        CausalBroadcast x = new CausalBroadcast();
        for (int i = 0; i < 150; i++) {
            x.broadcast(0, i);
        }
        return x;
    }

    /** View 20, in which a message was sent and a process wants to join. */
    static CausalBroadcast lastView() {
        CausalBroadcast x = new CausalBroadcast();
        x.saveSnapshot();
        for (int view = 1; view <= 20; view++) {
            x.install();
        }
        x.broadcast(0, 1);
        x.requestJoin(2);
        write(x, "a1,0;g0,1");
        return x;
    }

    /** The log of a process as a text, such as "0 2 1". */
    static String log(CausalBroadcast x, int process) {
        StringBuilder log = new StringBuilder();
        for (int i = 0; i < x.logLength(process); i++) {
            log.append(i == 0 ? "" : " ").append(x.logged(process, i));
        }
        return log.toString();
    }

    /** The buffer of a member as a text. */
    static String buffer(CausalBroadcast x, int process) {
        StringBuilder buffer = new StringBuilder();
        for (int i = 0; i < x.buffered(process); i++) {
            buffer.append(i == 0 ? "" : " ").append(x.bufferedMessage(process, i));
        }
        return buffer.toString();
    }

    /** A line of a member's table as a text. */
    static String line(CausalBroadcast x, int process, int of) {
        StringBuilder line = new StringBuilder();
        for (int sender = 0; sender < 6; sender++) {
            line.append(sender == 0 ? "" : " ").append(x.known(process, of, sender));
        }
        return line.toString();
    }

    /** The clock of a member as a text. */
    static String clock(CausalBroadcast x, int process) {
        StringBuilder clock = new StringBuilder();
        for (int of = 0; of < 6; of++) {
            clock.append(of == 0 ? "" : " ").append(x.clock(process, of));
        }
        return clock.toString();
    }

    /** The clock of a message as a text. */
    static String messageClock(CausalBroadcast x, int message) {
        StringBuilder clock = new StringBuilder();
        for (int process = 0; process < 6; process++) {
            clock.append(process == 0 ? "" : " ").append(x.messageClock(message, process));
        }
        return clock.toString();
    }
}
