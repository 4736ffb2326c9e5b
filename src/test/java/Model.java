import java.util.ArrayList;
import java.util.List;
import java.util.NoSuchElementException;
import java.util.TreeSet;

/**
 * The document's description in its own words, without a thought of speed: clocks are counted from the logs, the
 * deliverable message with the lowest number is looked for anew each time, and every script is tried on a copy.
 */
final class Model {
    private record Message(int number, int sender, int payload, int view, int sequence, List<Integer> clock) {
    }

    private static final String EVENT =
            "(b[0-5]=-?[0-9]{1,3}|a[0-5],[0-9]{1,3}|g[0-5],[0-5]|j[0-5]|l[0-5]|i)";
    private static final String SCRIPT = EVENT + "(;" + EVENT + ")*";
    private static final String[] ENDINGS = {"", "i", "0", "=0", ",0", "0=0", "0,0"};

    private List<TreeSet<Integer>> views = new ArrayList<>();
    private List<Integer> forced = new ArrayList<>();
    private TreeSet<Integer> proposed = new TreeSet<>();
    private List<Message> messages = new ArrayList<>();
    private List<List<Integer>> logs = new ArrayList<>();
    private List<TreeSet<Integer>> arrived = new ArrayList<>();
    private int[] states = new int[6];
    private int[][][] tables = new int[6][6][6];
    private int duplicates = 0;
    private String input = "";
    private Integer error = null;
    private Model saved = null;

    Model() {
        start(3);
    }

    private void start(int members) {
        views = new ArrayList<>(List.of(setOf(members)));
        forced = new ArrayList<>(List.of(0));
        proposed = setOf(members);
        messages = new ArrayList<>();
        logs = new ArrayList<>();
        arrived = new ArrayList<>();
        for (int p = 0; p < 6; p++) {
            logs.add(new ArrayList<>());
            arrived.add(new TreeSet<>());
        }
        states = new int[6];
        tables = new int[6][6][6];
        duplicates = 0;
    }

    private static TreeSet<Integer> setOf(int mask) {
        TreeSet<Integer> set = new TreeSet<>();
        for (int p = 0; p < 6; p++) {
            if ((mask & 1 << p) != 0) {
                set.add(p);
            }
        }
        return set;
    }

    private static int maskOf(TreeSet<Integer> set) {
        int mask = 0;
        for (int p : set) {
            mask += 1 << p;
        }
        return mask;
    }

    private void takeGroup(Model other) {
        views = new ArrayList<>(other.views);
        forced = new ArrayList<>(other.forced);
        proposed = new TreeSet<>(other.proposed);
        messages = new ArrayList<>(other.messages);
        logs = new ArrayList<>();
        arrived = new ArrayList<>();
        tables = new int[6][6][];
        for (int p = 0; p < 6; p++) {
            logs.add(new ArrayList<>(other.logs.get(p)));
            arrived.add(new TreeSet<>(other.arrived.get(p)));
            for (int q = 0; q < 6; q++) {
                tables[p][q] = other.tables[p][q].clone();
            }
        }
        states = other.states.clone();
        duplicates = other.duplicates;
    }

    private Model copy() {
        Model copy = new Model();
        copy.takeGroup(this);
        return copy;
    }

    private static void index(boolean good) {
        if (!good) {
            throw new IndexOutOfBoundsException();
        }
    }

    private static void allowed(boolean good) {
        if (!good) {
            throw new IllegalStateException();
        }
    }

    private static void element(boolean good) {
        if (!good) {
            throw new NoSuchElementException();
        }
    }

    private static void process(int p) {
        index(0 <= p && p <= 5);
    }

    private void sent(int m) {
        index(0 <= m && m < messages.size());
    }

    private TreeSet<Integer> members() {
        return views.get(view());
    }

    private void member(int p) {
        allowed(members().contains(p));
    }

    private boolean isCurrent(int m) {
        return messages.get(m).view() == view();
    }

    private int count(int p, int sender) {
        int count = 0;
        for (int m : logs.get(p)) {
            if (isCurrent(m) && messages.get(m).sender() == sender) {
                count++;
            }
        }
        return count;
    }

    private int number(int p, int q, int s) {
        return p == q ? count(p, s) : tables[p][q][s];
    }

    private boolean deliverable(int p, Message message) {
        if (logs.get(p).contains(message.number()) || message.sequence() != 1 + count(p, message.sender())) {
            return false;
        }
        for (int q = 0; q < 6; q++) {
            if (q != message.sender() && message.clock().get(q) > count(p, q)) {
                return false;
            }
        }
        return true;
    }

    private void deliver(int p, Message message) {
        logs.get(p).add(message.number());
        states[p] = 31 * states[p] + message.payload();
        for (int s = 0; s < 6 && message.sender() != p; s++) {
            tables[p][message.sender()][s] = Math.max(tables[p][message.sender()][s], message.clock().get(s));
        }
    }

    /** Delivers some messages at a process, again and again the lowest deliverable one. */
    private int deliverAmong(int p, TreeSet<Integer> some) {
        int done = 0;
        boolean more = true;
        while (more) {
            more = false;
            for (int m : some) {
                if (isCurrent(m) && deliverable(p, messages.get(m))) {
                    deliver(p, messages.get(m));
                    done++;
                    more = true;
                    break;
                }
            }
        }
        return done;
    }

    private List<Integer> buffer(int p) {
        List<Integer> buffer = new ArrayList<>();
        for (int m : arrived.get(p)) {
            if (isCurrent(m) && !logs.get(p).contains(m)) {
                buffer.add(m);
            }
        }
        return buffer;
    }

    private boolean stable(int p, int m) {
        Message message = messages.get(m);
        for (int q : members()) {
            if (isCurrent(m) && number(p, q, message.sender()) < message.sequence()) {
                return false;
            }
        }
        return true;
    }

    private boolean cause(int first, int second) {
        Message one = messages.get(first);
        Message two = messages.get(second);
        return first != second && one.view() == two.view() && two.clock().get(one.sender()) >= one.sequence();
    }

    int reset(int members) {
        if (members < 1 || members > 63) {
            throw new IllegalArgumentException();
        }
        int had = messages.size();
        start(members);
        return had;
    }

    int view() {
        return views.size() - 1;
    }

    int membersOf(int view) {
        index(0 <= view && view <= view());
        return maskOf(views.get(view));
    }

    int forcedIn(int view) {
        index(0 <= view && view <= view());
        return forced.get(view);
    }

    int proposed() {
        return maskOf(proposed);
    }

    int requestJoin(int p) {
        process(p);
        allowed(!proposed.contains(p));
        proposed.add(p);
        return proposed.size();
    }

    int requestLeave(int p) {
        process(p);
        allowed(proposed.contains(p));
        TreeSet<Integer> left = new TreeSet<>(proposed);
        left.remove(p);
        TreeSet<Integer> survivors = new TreeSet<>(left);
        survivors.retainAll(members());
        allowed(!survivors.isEmpty());
        proposed = left;
        return proposed.size();
    }

    int install() {
        allowed(view() != 20);
        TreeSet<Integer> survivors = new TreeSet<>(members());
        survivors.retainAll(proposed);
        TreeSet<Integer> held = new TreeSet<>();
        for (int p : survivors) {
            held.addAll(logs.get(p));
        }
        int done = 0;
        for (int p : survivors) {
            done += deliverAmong(p, held);
        }
        for (int p : proposed) {
            if (!members().contains(p)) {
                logs.set(p, new ArrayList<>(logs.get(survivors.first())));
                states[p] = states[survivors.first()];
            }
        }
        views.add(new TreeSet<>(proposed));
        forced.add(done);
        tables = new int[6][6][6];
        return done;
    }

    int broadcast(int p, int payload) {
        process(p);
        allowed(members().contains(p) && messages.size() < 150);
        List<Integer> clock = new ArrayList<>();
        for (int q = 0; q < 6; q++) {
            clock.add(count(p, q) + (q == p ? 1 : 0));
        }
        Message message = new Message(messages.size(), p, payload, view(), clock.get(p), clock);
        messages.add(message);
        deliver(p, message);
        return message.number();
    }

    int arrive(int p, int m) {
        process(p);
        sent(m);
        allowed(members().contains(p) && isCurrent(m));
        if (messages.get(m).sender() == p || !arrived.get(p).add(m)) {
            duplicates++;
            return 0;
        }
        return deliverAmong(p, new TreeSet<>(buffer(p)));
    }

    int arriveAll(int p) {
        process(p);
        member(p);
        int done = 0;
        for (Message message : messages) {
            if (message.view() == view() && message.sender() != p && !arrived.get(p).contains(message.number())) {
                done += arrive(p, message.number());
            }
        }
        return done;
    }

    int gossip(int from, int to) {
        process(from);
        process(to);
        allowed(members().contains(from) && members().contains(to) && from != to);
        int increased = 0;
        for (int q = 0; q < 6; q++) {
            for (int s = 0; s < 6; s++) {
                if (q != to && number(from, q, s) > number(to, q, s)) {
                    tables[to][q][s] = number(from, q, s);
                    increased++;
                }
            }
        }
        return increased;
    }

    int messageCount() {
        return messages.size();
    }

    int message(int m, int what) {
        sent(m);
        if (what < 0 || what > 3) {
            throw new IllegalArgumentException();
        }
        Message message = messages.get(m);
        return List.of(message.sender(), message.payload(), message.view(), message.sequence()).get(what);
    }

    int messageClock(int m, int p) {
        sent(m);
        process(p);
        return messages.get(m).clock().get(p);
    }

    boolean isCause(int first, int second) {
        sent(first);
        sent(second);
        return cause(first, second);
    }

    int causes(int m) {
        sent(m);
        int causes = 0;
        for (int other = 0; other < messages.size(); other++) {
            causes += cause(other, m) ? 1 : 0;
        }
        return causes;
    }

    int concurrent(int m) {
        sent(m);
        int concurrent = 0;
        for (int other = 0; other < messages.size(); other++) {
            boolean sameView = messages.get(other).view() == messages.get(m).view();
            concurrent += other != m && sameView && !cause(other, m) && !cause(m, other) ? 1 : 0;
        }
        return concurrent;
    }

    int longestChain(int view) {
        index(0 <= view && view <= view());
        int[] chain = new int[messages.size()];
        int longest = 0;
        for (int m = 0; m < chain.length; m++) {
            chain[m] = 1;
            for (int other = 0; other < m; other++) {
                chain[m] = cause(other, m) ? Math.max(chain[m], chain[other] + 1) : chain[m];
            }
            longest = messages.get(m).view() == view ? Math.max(longest, chain[m]) : longest;
        }
        return longest;
    }

    int duplicates() {
        return duplicates;
    }

    int logLength(int p) {
        process(p);
        return logs.get(p).size();
    }

    int logged(int p, int i) {
        process(p);
        index(0 <= i && i < logs.get(p).size());
        return logs.get(p).get(i);
    }

    int position(int p, int m) {
        process(p);
        sent(m);
        element(logs.get(p).contains(m));
        return logs.get(p).indexOf(m);
    }

    int state(int p) {
        process(p);
        return states[p];
    }

    int clock(int p, int of) {
        process(p);
        process(of);
        member(p);
        return count(p, of);
    }

    int buffered(int p) {
        process(p);
        member(p);
        return buffer(p).size();
    }

    int bufferedMessage(int p, int i) {
        process(p);
        member(p);
        element(0 <= i && i < buffer(p).size());
        return buffer(p).get(i);
    }

    int missing(int p, int m) {
        process(p);
        sent(m);
        allowed(members().contains(p) && isCurrent(m));
        int missing = 0;
        for (int other = 0; other < messages.size(); other++) {
            missing += cause(other, m) && !logs.get(p).contains(other) ? 1 : 0;
        }
        return missing;
    }

    int inTransit(int p) {
        process(p);
        member(p);
        int away = 0;
        for (Message message : messages) {
            boolean here = message.sender() == p || arrived.get(p).contains(message.number());
            away += message.view() == view() && !here ? 1 : 0;
        }
        return away;
    }

    int disagreements(int first, int second) {
        process(first);
        process(second);
        List<Integer> one = logs.get(first);
        List<Integer> two = logs.get(second);
        int pairs = 0;
        for (int a : one) {
            for (int b : one) {
                boolean both = two.contains(a) && two.contains(b);
                pairs += both && one.indexOf(a) < one.indexOf(b) && two.indexOf(a) > two.indexOf(b) ? 1 : 0;
            }
        }
        return pairs;
    }

    double overlap(int first, int second) {
        process(first);
        process(second);
        if (logs.get(first).isEmpty()) {
            throw new ArithmeticException();
        }
        List<Integer> both = new ArrayList<>(logs.get(first));
        both.retainAll(logs.get(second));
        return (double) both.size() / (double) logs.get(first).size();
    }

    int known(int p, int of, int sender) {
        process(p);
        process(of);
        process(sender);
        member(p);
        return number(p, of, sender);
    }

    boolean isStable(int p, int m) {
        process(p);
        sent(m);
        member(p);
        element(logs.get(p).contains(m));
        return stable(p, m);
    }

    int unstable(int p) {
        process(p);
        member(p);
        int unstable = 0;
        for (int m : logs.get(p)) {
            unstable += stable(p, m) ? 0 : 1;
        }
        return unstable;
    }

    boolean isEverywhere(int m) {
        sent(m);
        for (int p : members()) {
            if (!logs.get(p).contains(m)) {
                return false;
            }
        }
        return true;
    }

    int firstUnaware(int m) {
        sent(m);
        element(isEverywhere(m));
        for (int p : members()) {
            if (!stable(p, m)) {
                return p;
            }
        }
        throw new NoSuchElementException();
    }

    int append(char c) {
        if (c < 32 || c > 126) {
            throw new IllegalArgumentException();
        }
        allowed(input.length() < 60);
        input += c;
        return input.length();
    }

    int run() {
        String text = input;
        input = "";
        if (!text.matches(SCRIPT)) {
            error = errorIn(text);
            throw new IllegalArgumentException();
        }
        Model copy = copy();
        String[] events = text.split(";");
        for (String event : events) {
            copy.happen(event);
        }
        takeGroup(copy);
        return events.length;
    }

    private void happen(String event) {
        int p = event.length() > 1 ? event.charAt(1) - '0' : 0;
        int n = event.length() > 3 ? Integer.parseInt(event.substring(3)) : 0;
        try {
            switch (event.charAt(0)) {
                case 'b' -> broadcast(p, n);
                case 'a' -> arrive(p, n);
                case 'g' -> gossip(p, n);
                case 'j' -> requestJoin(p);
                case 'l' -> requestLeave(p);
                default -> install();
            }
        } catch (RuntimeException e) {
            throw new IllegalStateException(e);
        }
    }

    private static int errorIn(String text) {
        for (int k = 0; k < text.length(); k++) {
            if (!startsScript(text.substring(0, k + 1))) {
                return k;
            }
        }
        return text.length();
    }

    private static boolean startsScript(String start) {
        for (String ending : ENDINGS) {
            if ((start + ending).matches(SCRIPT)) {
                return true;
            }
        }
        return false;
    }

    int errorPosition() {
        element(error != null);
        return error;
    }

    int saveSnapshot() {
        saved = copy();
        return messages.size();
    }

    int restoreSnapshot() {
        allowed(saved != null);
        takeGroup(saved);
        return messages.size();
    }
}
