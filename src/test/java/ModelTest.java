import java.util.Random;

/** Random runs of calls, in which the class and the model must give the same answers; the seeds are fixed. */
public final class ModelTest {
    private static final int RUNS = 200;
    private static final int CALLS = 512;
    private static final String[] QUESTIONS = {
        "membersOf V", "forcedIn V", "message M W", "messageClock M P", "isCause M M", "causes M", "concurrent M",
        "longestChain V", "logLength P", "logged P I", "position P M", "state P", "clock P P", "buffered P",
        "bufferedMessage P I", "missing P M", "inTransit P", "disagreements P P", "overlap P P", "known P P P",
        "isStable P M", "unstable P", "isEverywhere M", "firstUnaware M", "view", "proposed", "messageCount",
        "duplicates", "errorPosition"};
    private static final String[] CHANGES = {
        "broadcast P N", "broadcast P N", "broadcast P N", "arrive P M", "arrive P M", "arrive P M", "arrive P M",
        "arrive P M", "arriveAll P", "gossip P P", "requestJoin P", "requestLeave P", "install"};
    private static final String[] RARE = {"reset S", "saveSnapshot", "restoreSnapshot", "append C", "run"};

    private final Random random;
    private final CausalBroadcast x = new CausalBroadcast();
    private final Model model = new Model();
    /** How much of a run is spent on new views and messages. */
    private final int haste;
    private boolean same = true;

    private ModelTest(int seed) {
        random = new Random(seed);
        haste = random.nextInt(4);
    }

    public static void main(String[] args) {
        for (int seed = 0; seed < RUNS; seed++) {
            new ModelTest(seed).compare(seed);
        }
        Check.end();
    }

    private void compare(int seed) {
        int members = random.nextInt(3) == 0 ? 3 : 1 + random.nextInt(63);
        call("reset", members);
        for (int i = 0; i < CALLS && same; i++) {
            step();
            if (random.nextInt(60) == 0) {
                look(seed);
            }
        }
        look(seed);
    }

    private void look(int seed) {
        Check.same("run " + seed + ", the picture,", Picture.of(model), Picture.of(x));
    }

    private void step() {
        int dice = random.nextInt(200);
        if (dice < 3) {
            playScript();
        } else if (dice < 5) {
            call(RARE[random.nextInt(RARE.length)]);
        } else if (dice < 110 + 20 * haste) {
            changeGroup();
        } else {
            call(QUESTIONS[random.nextInt(QUESTIONS.length)]);
        }
    }

    /** Views would end too soon for long histories if every change were as likely as the others. */
    private void changeGroup() {
        String change = CHANGES[random.nextInt(CHANGES.length)];
        boolean ofViews = change.startsWith("request") || change.equals("install");
        if (ofViews && haste > 0 && random.nextInt(3 * haste) > 0) {
            change = CHANGES[random.nextInt(8)];
        }
        call(change);
    }

    private void playScript() {
        StringBuilder script = new StringBuilder();
        int events = 1 + random.nextInt(12);
        for (int i = 0; i < events; i++) {
            script.append(i == 0 ? "" : ";").append(event());
        }
        if (random.nextInt(3) == 0) {
            int at = random.nextInt(script.length());
            script.setCharAt(at, "bagjli;=,-0123456789 x".charAt(random.nextInt(22)));
        }
        if (random.nextInt(6) == 0) {
            script.setLength(random.nextInt(script.length() + 1));
        }
        for (int i = 0; i < script.length(); i++) {
            call("append", script.charAt(i));
        }
        call("run");
    }

    private String event() {
        int p = member();
        switch (random.nextInt(8)) {
            case 0:
                return "j" + random.nextInt(6);
            case 1:
                return "l" + random.nextInt(6);
            case 2:
                return "i";
            case 3:
                return "g" + p + "," + member();
            case 4:
            case 5:
                return "a" + p + "," + Math.max(0, number('M'));
            default:
                return "b" + p + "=" + (random.nextInt(1999) - 999);
        }
    }

    private void call(String pattern) {
        String[] words = pattern.split(" ");
        Object[] arguments = new Object[words.length - 1];
        for (int i = 0; i < arguments.length; i++) {
            char kind = words[i + 1].charAt(0);
            arguments[i] = kind == 'C' ? (Object) (char) random.nextInt(140) : (Object) number(kind);
        }
        call(words[0], arguments);
    }

    private void call(String name, Object... arguments) {
        Object want = Picture.ask(model, name, arguments);
        Object got = Picture.ask(x, name, arguments);
        same = same && want.equals(got);
        Check.same(name + java.util.Arrays.toString(arguments), want, got);
    }

    private int number(char kind) {
        switch (kind) {
            case 'P':
                return random.nextInt(25) == 0 ? random.nextInt(9) - 2 : member();
            case 'M':
                return messageNumber();
            case 'V':
                return random.nextInt(model.view() + 3) - 1;
            case 'W':
                return random.nextInt(6) - 1;
            case 'I':
                return random.nextInt(12) - 1;
            case 'S':
                return random.nextInt(66) - 1;
            default:
                return random.nextInt();
        }
    }

    private int member() {
        int p = random.nextInt(6);
        for (int i = 0; i < 5 && (model.membersOf(model.view()) >> p & 1) == 0; i++) {
            p = random.nextInt(6);
        }
        return p;
    }

    private int messageNumber() {
        int count = model.messageCount();
        if (random.nextInt(15) == 0) {
            return random.nextInt(count + 3) - 1;
        }
        return Math.max(0, count - 1 - random.nextInt(20));
    }
}
