import java.util.Arrays;
import java.util.NoSuchElementException;

/**
 * A simulator of causal broadcast among six processes. The document's promises are kept by four parts: this class
 * holds the face and its exceptions, Group what happens among the processes, Script what the input says, and
 * Messages and Replica what is remembered of the messages and of each process.
 */
public final class CausalBroadcast {
    private static final int PROCESSES = 6;
    private static final int ALL_PROCESSES = 63;
    private static final int FIRST_MEMBERS = 3;
    private static final int MAX_MESSAGES = 150;
    private static final int LAST_VIEW = 20;
    private static final int MAX_INPUT = 60;
    /** The shortest event is one character long and the next one stands behind a semicolon. */
    private static final int MAX_EVENTS = 30;
    private static final int NONE = -1;

    private final Script script = new Script();
    private Group group = new Group();
    /** Made by the first script that needs it; scripts happen there first, so that a failing one leaves no trace. */
    private Group trial = null;
    private Group snapshot = null;
    private int errorAt = NONE;

    /** Creates a group with the members 0 and 1. */
    public CausalBroadcast() {
    }

    // ---- views

    public int reset(int members) throws IllegalArgumentException {
        if (members < 1 || members > ALL_PROCESSES) {
            throw new IllegalArgumentException("members is not from 1 to 63");
        }
        int sent = group.messages.count;
        group.startAnew(members);
        return sent;
    }

    public int view() {
        return group.view;
    }

    public int membersOf(int view) throws IndexOutOfBoundsException {
        requireView(view);
        return group.memberSets[view];
    }

    public int forcedIn(int view) throws IndexOutOfBoundsException {
        requireView(view);
        return group.forced[view];
    }

    public int proposed() {
        return group.proposed;
    }

    public int requestJoin(int process) throws IndexOutOfBoundsException, IllegalStateException {
        requireProcess(process);
        if (!group.canEnter(process)) {
            throw new IllegalStateException("the process is in the proposed set");
        }
        return group.enter(process);
    }

    public int requestLeave(int process) throws IndexOutOfBoundsException, IllegalStateException {
        requireProcess(process);
        if (!group.canQuit(process)) {
            throw new IllegalStateException("not in the proposed set, or no survivor would remain");
        }
        return group.quit(process);
    }

    public int install() throws IllegalStateException {
        if (!group.canChangeView()) {
            throw new IllegalStateException("the current view is the last one");
        }
        return group.changeView();
    }

    // ---- messages

    public int broadcast(int process, int payload) throws IndexOutOfBoundsException, IllegalStateException {
        requireProcess(process);
        if (!group.canSend(process)) {
            throw new IllegalStateException("not a member, or all messages have been sent");
        }
        return group.send(process, payload);
    }

    public int arrive(int process, int message) throws IndexOutOfBoundsException, IllegalStateException {
        requireProcess(process);
        requireMessage(message);
        requireReach(process, message);
        return group.receive(process, message);
    }

    public int arriveAll(int process) throws IndexOutOfBoundsException, IllegalStateException {
        requireProcess(process);
        requireMember(process);
        return group.receiveRest(process);
    }

    public int gossip(int from, int to) throws IndexOutOfBoundsException, IllegalStateException {
        requireProcess(from);
        requireProcess(to);
        if (!group.canTell(from, to)) {
            throw new IllegalStateException("one of both is not a member, or both are the same");
        }
        return group.tell(from, to);
    }

    public int messageCount() {
        return group.messages.count;
    }

    public int message(int message, int what) throws IndexOutOfBoundsException, IllegalArgumentException {
        requireMessage(message);
        switch (what) {
            case 0:
                return group.messages.senders[message];
            case 1:
                return group.messages.payloads[message];
            case 2:
                return group.messages.views[message];
            case 3:
                return group.messages.sequences[message];
            default:
                throw new IllegalArgumentException("what is not 0 to 3");
        }
    }

    public int messageClock(int message, int process) throws IndexOutOfBoundsException {
        requireMessage(message);
        requireProcess(process);
        return group.messages.entry(message, process);
    }

    public boolean isCause(int first, int second) throws IndexOutOfBoundsException {
        requireMessage(first);
        requireMessage(second);
        return group.messages.precedes(first, second);
    }

    public int causes(int message) throws IndexOutOfBoundsException {
        requireMessage(message);
        return group.messages.countCauses(message);
    }

    public int concurrent(int message) throws IndexOutOfBoundsException {
        requireMessage(message);
        return group.messages.countConcurrent(message);
    }

    public int longestChain(int view) throws IndexOutOfBoundsException {
        requireView(view);
        return group.messages.greatestDepth(view);
    }

    public int duplicates() {
        return group.repeats;
    }

    // ---- processes

    public int logLength(int process) throws IndexOutOfBoundsException {
        requireProcess(process);
        return group.replicas[process].length;
    }

    public int logged(int process, int index) throws IndexOutOfBoundsException {
        requireProcess(process);
        if (index < 0 || index >= group.replicas[process].length) {
            throw new IndexOutOfBoundsException("no such index");
        }
        return group.replicas[process].log[index];
    }

    public int position(int process, int message) throws IndexOutOfBoundsException, NoSuchElementException {
        requireProcess(process);
        requireMessage(message);
        requireLogged(process, message);
        return group.replicas[process].places[message];
    }

    public int state(int process) throws IndexOutOfBoundsException {
        requireProcess(process);
        return group.replicas[process].value;
    }

    public int clock(int process, int of) throws IndexOutOfBoundsException, IllegalStateException {
        requireProcess(process);
        requireProcess(of);
        requireMember(process);
        return group.replicas[process].entry(of);
    }

    public int buffered(int process) throws IndexOutOfBoundsException, IllegalStateException {
        requireProcess(process);
        requireMember(process);
        return group.countPlaced(process, Replica.WAITING);
    }

    public int bufferedMessage(int process, int index)
            throws IndexOutOfBoundsException, IllegalStateException, NoSuchElementException {
        requireProcess(process);
        requireMember(process);
        int message = group.waitingAt(process, index);
        if (message == NONE) {
            throw new NoSuchElementException("no such message in the buffer");
        }
        return message;
    }

    public int missing(int process, int message) throws IndexOutOfBoundsException, IllegalStateException {
        requireProcess(process);
        requireMessage(message);
        requireReach(process, message);
        return group.countMissing(process, message);
    }

    public int inTransit(int process) throws IndexOutOfBoundsException, IllegalStateException {
        requireProcess(process);
        requireMember(process);
        return group.countPlaced(process, Replica.AWAY);
    }

    public int disagreements(int first, int second) throws IndexOutOfBoundsException {
        requireProcess(first);
        requireProcess(second);
        return group.replicas[first].countSwapped(group.replicas[second]);
    }

    public double overlap(int first, int second) throws IndexOutOfBoundsException, ArithmeticException {
        requireProcess(first);
        requireProcess(second);
        int length = group.replicas[first].length;
        if (length == 0) {
            throw new ArithmeticException("the log of the first process is empty");
        }
        int shared = group.replicas[first].countShared(group.replicas[second]);
        return (double) shared / (double) length;
    }

    // ---- knowledge

    public int known(int process, int of, int sender) throws IndexOutOfBoundsException, IllegalStateException {
        requireProcess(process);
        requireProcess(of);
        requireProcess(sender);
        requireMember(process);
        return group.replicas[process].heard(of, sender);
    }

    public boolean isStable(int process, int message)
            throws IndexOutOfBoundsException, IllegalStateException, NoSuchElementException {
        requireProcess(process);
        requireMessage(message);
        requireMember(process);
        requireLogged(process, message);
        return group.isSettled(process, message);
    }

    public int unstable(int process) throws IndexOutOfBoundsException, IllegalStateException {
        requireProcess(process);
        requireMember(process);
        return group.countUnsettled(process);
    }

    public boolean isEverywhere(int message) throws IndexOutOfBoundsException {
        requireMessage(message);
        return group.isWithAll(message);
    }

    public int firstUnaware(int message) throws IndexOutOfBoundsException, NoSuchElementException {
        requireMessage(message);
        int process = group.findUnaware(message);
        if (process == NONE) {
            throw new NoSuchElementException("not in the logs of all members, or stable for all members");
        }
        return process;
    }

    // ---- scripts

    public int append(char character) throws IllegalArgumentException, IllegalStateException {
        if (character < 32 || character > 126) {
            throw new IllegalArgumentException("the character code is out of range");
        }
        if (script.isFull()) {
            throw new IllegalStateException("the input has 60 characters");
        }
        return script.add(character);
    }

    public int run() throws IllegalArgumentException, IllegalStateException {
        boolean valid = script.parse();
        script.clear();
        if (!valid) {
            errorAt = script.at;
            throw new IllegalArgumentException("the input is not a script");
        }
        Group draft = copyToTrial();
        for (int event = 0; event < script.events; event++) {
            if (!draft.perform(script.kinds[event], script.firsts[event], script.seconds[event])) {
                throw new IllegalStateException("one of the events would throw an exception");
            }
        }
        trial = group;
        group = draft;
        return script.events;
    }

    public int errorPosition() throws NoSuchElementException {
        if (errorAt == NONE) {
            throw new NoSuchElementException("no error position was kept");
        }
        return errorAt;
    }

    // ---- snapshot

    public int saveSnapshot() {
        if (snapshot == null) {
            snapshot = new Group();
        }
        snapshot.copyFrom(group);
        return group.messages.count;
    }

    public int restoreSnapshot() throws IllegalStateException {
        if (snapshot == null) {
            throw new IllegalStateException("no snapshot was saved");
        }
        group.copyFrom(snapshot);
        return group.messages.count;
    }

    private static void requireProcess(int process) {
        if (!isProcess(process)) {
            throw new IndexOutOfBoundsException("no such process");
        }
    }

    private void requireMessage(int message) {
        if (!group.messages.has(message)) {
            throw new IndexOutOfBoundsException("no such message");
        }
    }

    private void requireView(int view) {
        if (view < 0 || view > group.view) {
            throw new IndexOutOfBoundsException("no such view");
        }
    }

    private void requireMember(int process) {
        if (!group.isMember(process)) {
            throw new IllegalStateException("the process is not a member");
        }
    }

    private void requireReach(int process, int message) {
        if (!group.canReceive(process, message)) {
            throw new IllegalStateException("not a member, or not a message of the current view");
        }
    }

    private void requireLogged(int process, int message) {
        if (!group.replicas[process].hasLogged(message)) {
            throw new NoSuchElementException("the message is not in the log");
        }
    }

    private Group copyToTrial() {
        if (trial == null) {
            trial = new Group();
        }
        trial.copyFrom(group);
        return trial;
    }

    private static boolean isProcess(int process) {
        return process >= 0 && process < PROCESSES;
    }

    private static boolean contains(int set, int process) {
        return (set >> process & 1) == 1;
    }

    private static int lowestOf(int set) {
        int process = 0;
        while (process < PROCESSES - 1 && !contains(set, process)) {
            process++;
        }
        return process;
    }

    /** Both rows have the same length wherever this is used; the smaller one counts all the same. */
    private static void copyRow(int[] from, int[] to) {
        System.arraycopy(from, 0, to, 0, Math.min(from.length, to.length));
    }

    /** All messages that were sent, a row for each of their numbers. */
    private static final class Messages {
        private final int[] senders = new int[MAX_MESSAGES];
        private final int[] payloads = new int[MAX_MESSAGES];
        private final int[] views = new int[MAX_MESSAGES];
        private final int[] sequences = new int[MAX_MESSAGES];
        /** The number of messages in a longest chain that ends with the message. */
        private final int[] depths = new int[MAX_MESSAGES];
        private final int[] clocks = new int[MAX_MESSAGES * PROCESSES];
        private int count = 0;

        boolean has(int message) {
            return message >= 0 && message < count;
        }

        boolean isFull() {
            return count >= MAX_MESSAGES;
        }

        int entry(int message, int process) {
            return clocks[message * PROCESSES + process];
        }

        /** Adds a message that the sender has just delivered, so that the sender's clock is the message's. */
        void add(Replica sender, int payload, int view) {
            if (isFull()) {
                return;
            }
            int message = count;
            senders[message] = sender.self;
            payloads[message] = payload;
            views[message] = view;
            sequences[message] = sender.entry(sender.self);
            for (int process = 0; process < PROCESSES; process++) {
                clocks[message * PROCESSES + process] = sender.entry(process);
            }
            depths[message] = 1 + greatestDepthBefore(message);
            count++;
        }

        boolean precedes(int first, int second) {
            return first != second && views[first] == views[second]
                    && entry(second, senders[first]) >= sequences[first];
        }

        /** A cause is sent before its effect, so only lower numbers need a look. */
        private int greatestDepthBefore(int message) {
            int greatest = 0;
            for (int other = 0; other < message; other++) {
                if (precedes(other, message)) {
                    greatest = Math.max(greatest, depths[other]);
                }
            }
            return greatest;
        }

        int greatestDepth(int view) {
            int greatest = 0;
            for (int message = 0; message < count; message++) {
                if (views[message] == view) {
                    greatest = Math.max(greatest, depths[message]);
                }
            }
            return greatest;
        }

        int countCauses(int message) {
            int found = 0;
            for (int other = 0; other < count; other++) {
                if (precedes(other, message)) {
                    found++;
                }
            }
            return found;
        }

        int countConcurrent(int message) {
            int found = 0;
            for (int other = 0; other < count; other++) {
                if (other != message && views[other] == views[message]
                        && !precedes(other, message) && !precedes(message, other)) {
                    found++;
                }
            }
            return found;
        }

        void copyFrom(Messages other) {
            copyRow(other.senders, senders);
            copyRow(other.payloads, payloads);
            copyRow(other.views, views);
            copyRow(other.sequences, sequences);
            copyRow(other.depths, depths);
            copyRow(other.clocks, clocks);
            count = other.count;
        }
    }

    /** What one process holds: its log, its state, its buffer and its table. */
    private static final class Replica {
        /** The place of a message that has not arrived. */
        private static final int AWAY = -2;
        /** The place of a message in the buffer. */
        private static final int WAITING = -1;

        private final int self;
        private final int[] log = new int[MAX_MESSAGES];
        /** For each message its index in the log, or else WAITING or AWAY, which count in its own view alone. */
        private final int[] places = new int[MAX_MESSAGES];
        /** The numbers for q and s at q * PROCESSES + s; the own line is the clock. */
        private final int[] table = new int[PROCESSES * PROCESSES];
        private int length = 0;
        private int value = 0;

        Replica(int self) {
            this.self = self;
        }

        void startAnew() {
            Arrays.fill(places, AWAY);
            length = 0;
            value = 0;
            forgetTable();
        }

        void forgetTable() {
            Arrays.fill(table, 0);
        }

        boolean hasLogged(int message) {
            return places[message] >= 0;
        }

        int heard(int of, int sender) {
            return table[of * PROCESSES + sender];
        }

        int entry(int of) {
            return heard(self, of);
        }

        void deliver(int message, int sender, int payload) {
            if (length >= MAX_MESSAGES) {
                return;
            }
            log[length] = message;
            places[message] = length;
            length++;
            value = 31 * value + payload;
            table[self * PROCESSES + sender]++;
        }

        boolean isReadyFor(Messages messages, int message) {
            int sender = messages.senders[message];
            if (hasLogged(message) || messages.sequences[message] != 1 + entry(sender)) {
                return false;
            }
            for (int process = 0; process < PROCESSES; process++) {
                if (process != sender && messages.entry(message, process) > entry(process)) {
                    return false;
                }
            }
            return true;
        }

        /** The sender of a message, another process than this one, had delivered what the message's clock counts. */
        void learnFromClock(Messages messages, int message) {
            int line = messages.senders[message] * PROCESSES;
            for (int process = 0; process < PROCESSES; process++) {
                int number = messages.entry(message, process);
                if (number > table[line + process]) {
                    table[line + process] = number;
                }
            }
        }

        /** Answers how many numbers increase. The own line stays, since it equals the clock. */
        int learnFromTable(Replica other) {
            int increased = 0;
            for (int index = 0; index < PROCESSES * PROCESSES; index++) {
                if (index / PROCESSES != self && other.table[index] > table[index]) {
                    table[index] = other.table[index];
                    increased++;
                }
            }
            return increased;
        }

        int countShared(Replica other) {
            int shared = 0;
            for (int index = 0; index < length; index++) {
                if (other.hasLogged(log[index])) {
                    shared++;
                }
            }
            return shared;
        }

        int countSwapped(Replica other) {
            int swapped = 0;
            for (int index = 0; index < length; index++) {
                if (other.hasLogged(log[index])) {
                    swapped += countSwappedBehind(index, other);
                }
            }
            return swapped;
        }

        private int countSwappedBehind(int start, Replica other) {
            int place = other.places[log[start]];
            int swapped = 0;
            for (int index = start + 1; index < length; index++) {
                int otherPlace = other.places[log[index]];
                if (otherPlace >= 0 && otherPlace < place) {
                    swapped++;
                }
            }
            return swapped;
        }

        void copyLogAndState(Replica other) {
            copyRow(other.log, log);
            copyRow(other.places, places);
            length = other.length;
            value = other.value;
        }

        void copyFrom(Replica other) {
            copyLogAndState(other);
            copyRow(other.table, table);
        }
    }

    /** The views, the messages and the processes: all that a snapshot saves. Its callers ask the can-methods first. */
    private static final class Group {
        private final int[] memberSets = new int[LAST_VIEW + 1];
        /** The forced deliveries of each view; nothing ever forces one in view 0. */
        private final int[] forced = new int[LAST_VIEW + 1];
        private final Messages messages = new Messages();
        private final Replica[] replicas = new Replica[PROCESSES];
        private int view = 0;
        private int proposed = 0;
        /** The number of the first message of the current view, which has all messages from there on. */
        private int viewStart = 0;
        private int repeats = 0;

        Group() {
            for (int process = 0; process < PROCESSES; process++) {
                replicas[process] = new Replica(process);
            }
            startAnew(FIRST_MEMBERS);
        }

        void startAnew(int members) {
            messages.count = 0;
            for (int process = 0; process < PROCESSES; process++) {
                replicas[process].startAnew();
            }
            view = 0;
            memberSets[0] = members;
            proposed = members;
            viewStart = 0;
            repeats = 0;
        }

        void copyFrom(Group other) {
            copyRow(other.memberSets, memberSets);
            copyRow(other.forced, forced);
            messages.copyFrom(other.messages);
            for (int process = 0; process < PROCESSES; process++) {
                replicas[process].copyFrom(other.replicas[process]);
            }
            view = other.view;
            proposed = other.proposed;
            viewStart = other.viewStart;
            repeats = other.repeats;
        }

        /** Carries out an event of a script, or answers false if its method would throw an exception. */
        boolean perform(char kind, int first, int second) {
            if (!canPerform(kind, first, second)) {
                return false;
            }
            switch (kind) {
                case 'b':
                    send(first, second);
                    break;
                case 'a':
                    receive(first, second);
                    break;
                case 'g':
                    tell(first, second);
                    break;
                case 'j':
                    enter(first);
                    break;
                case 'l':
                    quit(first);
                    break;
                default:
                    changeView();
            }
            return true;
        }

        private boolean canPerform(char kind, int first, int second) {
            switch (kind) {
                case 'b':
                    return canSend(first);
                case 'a':
                    return canReceive(first, second);
                case 'g':
                    return canTell(first, second);
                case 'j':
                    return canEnter(first);
                case 'l':
                    return canQuit(first);
                default:
                    return canChangeView();
            }
        }

        int members() {
            return memberSets[view];
        }

        boolean isMember(int process) {
            return isProcess(process) && contains(members(), process);
        }

        // ---- views

        boolean canEnter(int process) {
            return isProcess(process) && !contains(proposed, process);
        }

        int enter(int process) {
            proposed |= 1 << process;
            return Integer.bitCount(proposed);
        }

        boolean canQuit(int process) {
            return isProcess(process) && contains(proposed, process)
                    && (members() & proposed & ~(1 << process)) != 0;
        }

        int quit(int process) {
            proposed &= ~(1 << process);
            return Integer.bitCount(proposed);
        }

        boolean canChangeView() {
            return view < LAST_VIEW;
        }

        int changeView() {
            int survivors = members() & proposed;
            int deliveries = 0;
            for (int process = 0; process < PROCESSES; process++) {
                if (contains(survivors, process)) {
                    deliveries += force(process, survivors);
                }
            }
            welcome(proposed & ~members(), replicas[lowestOf(survivors)]);
            view++;
            memberSets[view] = proposed;
            forced[view] = deliveries;
            beginView();
            return deliveries;
        }

        /** Goes up once, since a delivery makes only higher numbers deliverable: causes are sent before effects. */
        private int force(int process, int survivors) {
            int deliveries = 0;
            for (int message = viewStart; message < messages.count; message++) {
                if (isLoggedAmong(survivors, message) && replicas[process].isReadyFor(messages, message)) {
                    deliver(process, message);
                    deliveries++;
                }
            }
            return deliveries;
        }

        private boolean isLoggedAmong(int set, int message) {
            for (int process = 0; process < PROCESSES; process++) {
                if (contains(set, process) && replicas[process].hasLogged(message)) {
                    return true;
                }
            }
            return false;
        }

        /** The buffers are empty with that, since only messages of the current view are looked for in them. */
        private void beginView() {
            viewStart = messages.count;
            for (int process = 0; process < PROCESSES; process++) {
                replicas[process].forgetTable();
            }
        }

        private void welcome(int newcomers, Replica donor) {
            for (int process = 0; process < PROCESSES; process++) {
                if (contains(newcomers, process)) {
                    replicas[process].copyLogAndState(donor);
                }
            }
        }

        // ---- messages

        boolean canSend(int process) {
            return isMember(process) && !messages.isFull();
        }

        int send(int process, int payload) {
            int message = messages.count;
            replicas[process].deliver(message, process, payload);
            messages.add(replicas[process], payload, view);
            return message;
        }

        boolean canReceive(int process, int message) {
            return isMember(process) && messages.has(message) && message >= viewStart;
        }

        int receive(int process, int message) {
            if (replicas[process].places[message] != Replica.AWAY) {
                repeats++;
                return 0;
            }
            replicas[process].places[message] = Replica.WAITING;
            return deliverWaiting(process, message);
        }

        int receiveRest(int process) {
            int deliveries = 0;
            for (int message = viewStart; message < messages.count; message++) {
                if (replicas[process].places[message] == Replica.AWAY) {
                    deliveries += receive(process, message);
                }
            }
            return deliveries;
        }

        /**
         * Delivers what the arrival of a message allows. Before it nothing in the buffer was deliverable, and a
         * delivery makes only higher numbers deliverable, so one way up from the message meets them lowest first.
         */
        private int deliverWaiting(int process, int arrived) {
            int deliveries = 0;
            for (int message = arrived; message < messages.count; message++) {
                if (replicas[process].places[message] == Replica.WAITING
                        && replicas[process].isReadyFor(messages, message)) {
                    deliver(process, message);
                    deliveries++;
                }
            }
            return deliveries;
        }

        private void deliver(int process, int message) {
            replicas[process].deliver(message, messages.senders[message], messages.payloads[message]);
            replicas[process].learnFromClock(messages, message);
        }

        boolean canTell(int from, int to) {
            return isMember(from) && isMember(to) && from != to;
        }

        int tell(int from, int to) {
            return replicas[to].learnFromTable(replicas[from]);
        }

        // ---- questions

        /** Counts the messages of the current view that have the place AWAY or WAITING at a process. */
        int countPlaced(int process, int place) {
            int found = 0;
            for (int message = viewStart; message < messages.count; message++) {
                if (replicas[process].places[message] == place) {
                    found++;
                }
            }
            return found;
        }

        int waitingAt(int process, int index) {
            int before = 0;
            for (int message = viewStart; message < messages.count; message++) {
                if (replicas[process].places[message] == Replica.WAITING) {
                    if (before == index) {
                        return message;
                    }
                    before++;
                }
            }
            return NONE;
        }

        int countMissing(int process, int message) {
            int found = 0;
            for (int other = viewStart; other < messages.count; other++) {
                if (messages.precedes(other, message) && !replicas[process].hasLogged(other)) {
                    found++;
                }
            }
            return found;
        }

        boolean isSettled(int process, int message) {
            if (message < viewStart) {
                return true;
            }
            int sender = messages.senders[message];
            for (int member = 0; member < PROCESSES; member++) {
                if (isMember(member) && replicas[process].heard(member, sender) < messages.sequences[message]) {
                    return false;
                }
            }
            return true;
        }

        int countUnsettled(int process) {
            int found = 0;
            for (int message = viewStart; message < messages.count; message++) {
                if (replicas[process].hasLogged(message) && !isSettled(process, message)) {
                    found++;
                }
            }
            return found;
        }

        boolean isWithAll(int message) {
            for (int process = 0; process < PROCESSES; process++) {
                if (isMember(process) && !replicas[process].hasLogged(message)) {
                    return false;
                }
            }
            return true;
        }

        int findUnaware(int message) {
            if (!isWithAll(message)) {
                return NONE;
            }
            for (int process = 0; process < PROCESSES; process++) {
                if (isMember(process) && !isSettled(process, message)) {
                    return process;
                }
            }
            return NONE;
        }
    }

    /** The input, and the events in it once it has been parsed. */
    private static final class Script {
        private static final int MAX_DIGITS = 3;

        private final char[] text = new char[MAX_INPUT];
        private int length = 0;
        private final char[] kinds = new char[MAX_EVENTS];
        private final int[] firsts = new int[MAX_EVENTS];
        private final int[] seconds = new int[MAX_EVENTS];
        private int events = 0;
        /** The index of the next character; where parsing stops without success, the error position. */
        private int at = 0;
        /** What was read last by one of the methods that read a number. */
        private int number = 0;

        boolean isFull() {
            return length >= MAX_INPUT;
        }

        int add(char character) {
            if (!isFull()) {
                text[length] = character;
                length++;
            }
            return length;
        }

        void clear() {
            length = 0;
        }

        /** Answers whether the text is a script. Whatever is begun can be ended, so the first misfit is the error. */
        boolean parse() {
            at = 0;
            events = 0;
            for (int event = 0; event < MAX_EVENTS; event++) {
                if (!readEvent()) {
                    return false;
                }
                if (at >= length) {
                    return true;
                }
                if (!readSign(';')) {
                    return false;
                }
            }
            return false;
        }

        private boolean readEvent() {
            if (readSign('i')) {
                return keep('i', 0, 0);
            }
            char kind = at < length ? text[at] : ' ';
            if ("bagjl".indexOf(kind) < 0) {
                return false;
            }
            at++;
            if (!readProcess()) {
                return false;
            }
            int process = number;
            return readRest(kind) && keep(kind, process, number);
        }

        private boolean readRest(char kind) {
            switch (kind) {
                case 'b':
                    return readSign('=') && readPayload();
                case 'a':
                    return readSign(',') && readDigits();
                case 'g':
                    return readSign(',') && readProcess();
                default:
                    return true;
            }
        }

        private boolean keep(char kind, int first, int second) {
            if (events >= MAX_EVENTS) {
                return false;
            }
            kinds[events] = kind;
            firsts[events] = first;
            seconds[events] = second;
            events++;
            return true;
        }

        private boolean readSign(char sign) {
            if (at >= length || text[at] != sign) {
                return false;
            }
            at++;
            return true;
        }

        private boolean readProcess() {
            if (!isDigitNext() || !isProcess(text[at] - '0')) {
                return false;
            }
            number = text[at] - '0';
            at++;
            return true;
        }

        private boolean readPayload() {
            boolean negative = readSign('-');
            if (!readDigits()) {
                return false;
            }
            number = negative ? -number : number;
            return true;
        }

        private boolean readDigits() {
            int digits = 0;
            number = 0;
            while (digits < MAX_DIGITS && isDigitNext()) {
                number = 10 * number + (text[at] - '0');
                at++;
                digits++;
            }
            return digits > 0;
        }

        private boolean isDigitNext() {
            return at < length && text[at] >= '0' && text[at] <= '9';
        }
    }
}
