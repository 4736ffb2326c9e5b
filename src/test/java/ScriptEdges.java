/** The boundaries of the description's sentences about scripts and of promises 38 to 40. */
final class ScriptEdges {
    /** Sixty characters, which are a script of 27 events. */
    private static final String SIXTY = "i;".repeat(20) + "j5;l5;j5;l5;j5;l5;j5";

    private ScriptEdges() {
    }

    static void all() {
        Edge.of(0, "The input is a buffer of at most 60 characters.", ScriptEdges::theInputHolds60);
        Edge.of(0, "A script is an event, or several events with a semicolon between two of them.",
                ScriptEdges::semicolonsStandBetween);
        Edge.of(0, "An event is bPROCESS=NUMBER, or aPROCESS,MESSAGE, or gPROCESS,PROCESS, or jPROCESS, or lPROCESS,"
                + " or i", ScriptEdges::theSixForms);
        Edge.of(0, "without spaces", ScriptEdges::spacesAreWrong);
        Edge.of(0, "PROCESS stands for a digit from 0 to 5", ScriptEdges::processesAre0To5);
        Edge.of(0, "NUMBER for an optional minus sign and 1 to 3 digits", ScriptEdges::numbersHave1To3Digits);
        Edge.of(0, "MESSAGE for 1 to 3 digits", ScriptEdges::messagesHave1To3Digits);
        Edge.of(0, "The events stand for broadcast, arrive, gossip, requestJoin, requestLeave and install with these"
                + " arguments.", ScriptEdges::eventsAreCalls);
        Edge.of(0, "is the smallest index k such that no script starts with the first k + 1 characters of it",
                ScriptEdges::theFirstWrongCharacter);
        Edge.of(0, "if there is no such index, it is the length of the text", ScriptEdges::unfinishedTexts);
        Edge.of(38, "Appends a character to the input.", ScriptEdges::everyCharacterIsTaken);
        Edge.of(38, "the character, with a code from 32 to 126", ScriptEdges::codesFrom32To126);
        Edge.of(38, "Returns the new length of the input.", ScriptEdges::lengthsFrom1To60);
        Edge.of(38, "the character code is out of range", ScriptEdges::codesOutOfRange);
        Edge.of(38, "the input has 60 characters", ScriptEdges::the61stIsRefused);
        Edge.of(39, "Carries out the script in the input, event by event.", ScriptEdges::eventsFollowOneAnother);
        Edge.of(39, "If one of the events would throw an exception, nothing changes.",
                ScriptEdges::aFailingEventUndoesAll);
        Edge.of(39, "The input is empty afterwards, whatever happens.", ScriptEdges::theInputIsEmptyAfterwards);
        Edge.of(39, "Returns the number of events.", ScriptEdges::from1To27Events);
        Edge.of(39, "the input is not a script; the error position is then kept for errorPosition",
                ScriptEdges::textsThatAreNoScripts);
        Edge.of(39, "one of the events would throw an exception", ScriptEdges::eachKindOfEventCanFail);
        Edge.of(40, "Returns the error position that was kept last.", ScriptEdges::theLastErrorIsKept);
        Edge.of(40, "Returns the error position.", ScriptEdges::errorsFrom0To60);
        Edge.of(40, "none was kept", ScriptEdges::noErrorWasKept);
    }

    /** The text is a script whose events can happen in a group of all six with a message. */
    private static void taken(int events, String text) {
        CausalBroadcast x = six();
        Scene.write(x, text);
        Edge.due(events, () -> x.run());
    }

    /** The text is no script, the error position is due, and nothing else but the input has changed. */
    private static void wrong(int position, String text) {
        CausalBroadcast x = six();
        String before = Picture.of(x);
        Scene.write(x, text);
        Edge.fails(Edge.ARGUMENT, () -> x.run());
        Edge.due(position, () -> x.errorPosition());
        Edge.due(1, () -> x.append('i'));
        String error = "errorPosition: ";
        Edge.same(before.replace(error + "NoSuchElementException\n", error + position + "\n"), Picture.of(x));
    }

    /** The text is a script, but one of its events would throw; nothing but the input has changed. */
    private static void failing(String text) {
        CausalBroadcast x = six();
        String before = Picture.of(x);
        Scene.write(x, text);
        Edge.fails(Edge.STATE, () -> x.run());
        Edge.same(before, Picture.of(x));
        Edge.due(1, () -> x.append('i'));
    }

    private static CausalBroadcast six() {
        CausalBroadcast x = Scene.members(63);
        x.broadcast(0, 1);
        return x;
    }

    private static void theInputHolds60() {
        CausalBroadcast x = new CausalBroadcast();
        Scene.write(x, SIXTY);
        Edge.fails(Edge.STATE, () -> x.append(';'));
        Edge.due(27, () -> x.run());
        Edge.due(35, () -> x.proposed());
        Edge.due(20, () -> x.view());
        // All 60 can be used again.
        Scene.write(x, "~".repeat(60));
        Edge.fails(Edge.STATE, () -> x.append('~'));
    }

    private static void semicolonsStandBetween() {
        taken(1, "i");
        taken(2, "i;i");
        taken(3, "i;b0=1;i");
        wrong(0, "");
        wrong(0, ";");
        wrong(0, ";i");
        wrong(2, "i;");
        wrong(2, "i;;i");
        wrong(1, "ii");
        wrong(1, "i,i");
        wrong(4, "b0=1,i");
        wrong(2, "j0j1");
        wrong(5, "b0=1;");
    }

    private static void theSixForms() {
        for (String event : new String[] {"b0=0", "a1,0", "g0,1", "l0", "i"}) {
            taken(1, event);
        }
        taken(2, "l3;j3");
        for (int code = 32; code <= 126; code++) {
            String start = String.valueOf((char) code);
            wrong("bagjli".contains(start) ? 1 : 0, start.equals("i") ? "i?" : start);
        }
        wrong(2, "b0,0");
        wrong(2, "a0=0");
        wrong(2, "g0=1");
        wrong(2, "j0,1");
        wrong(2, "l0=1");
        wrong(1, "i0");
        wrong(2, "b0");
        wrong(2, "a0");
        wrong(2, "g0");
        wrong(1, "j");
        wrong(1, "l");
    }

    private static void spacesAreWrong() {
        String[] scripts = {"b0=1", "b0=-1", "a1,0", "g0,1", "j0", "l0", "i", "l0;j0"};
        for (String script : scripts) {
            for (int at = 0; at <= script.length(); at++) {
                wrong(at, script.substring(0, at) + " " + script.substring(at));
            }
        }
    }

    private static void processesAre0To5() {
        for (int p : Edge.PROCESSES) {
            int other = (p + 1) % 6;
            taken(1, "b" + p + "=1");
            taken(1, "a" + p + ",0");
            taken(1, "g" + p + "," + other);
            taken(2, "l" + p + ";j" + p);
        }
        // The signs before 0 and behind 5 and 9.
        for (String sign : new String[] {"/", "6", "7", "8", "9", ":", "-", "-1", "=", ",", ";"}) {
            wrong(1, "b" + sign + "=1");
            wrong(1, "a" + sign + ",0");
            wrong(1, "g" + sign + ",0");
            wrong(3, "g0," + sign);
            wrong(1, "j" + sign);
            wrong(1, "l" + sign);
        }
        wrong(2, "b00=1");
        wrong(2, "a00,0");
        wrong(2, "g00,1");
        wrong(4, "g0,01");
        wrong(2, "j00");
        wrong(2, "l00");
    }

    private static void numbersHave1To3Digits() {
        Object[][] rows = {{"0", 0}, {"9", 9}, {"10", 10}, {"99", 99}, {"100", 100}, {"999", 999}, {"000", 0},
            {"007", 7}, {"-0", 0}, {"-1", -1}, {"-9", -9}, {"-99", -99}, {"-999", -999}, {"-001", -1}};
        for (Object[] row : rows) {
            CausalBroadcast x = new CausalBroadcast();
            Scene.write(x, "b1=" + row[0]);
            Edge.due(1, () -> x.run());
            Edge.due(row[1], () -> x.message(0, 1));
        }
        wrong(3, "b1=");
        wrong(3, "b1=;i");
        wrong(4, "b1=-");
        wrong(4, "b1=-;i");
        wrong(4, "b1=--1");
        wrong(3, "b1=+1");
        wrong(6, "b1=1000");
        wrong(6, "b1=0001");
        wrong(7, "b1=-1000");
        wrong(4, "b1=1-");
        wrong(3, "b1=/");
        wrong(3, "b1=:");
        wrong(4, "b1=1/");
        wrong(4, "b1=1:");
        wrong(4, "b1=1.5");
        wrong(3, "b1=x");
    }

    private static void messagesHave1To3Digits() {
        for (String number : new String[] {"0", "00", "000"}) {
            taken(1, "a1," + number);
        }
        CausalBroadcast x = Scene.oneSender();
        Scene.write(x, "a1,149;a1,10;a1,9;a1,009");
        Edge.due(4, () -> x.run());
        Edge.same("9 10 149", Scene.buffer(x, 1));
        Edge.due(1, () -> x.duplicates());
        wrong(3, "a1,");
        wrong(3, "a1,;i");
        wrong(3, "a1,-0");
        wrong(3, "a1,-1");
        wrong(6, "a1,0000");
        wrong(6, "a1,1000");
        wrong(3, "a1,/");
        wrong(3, "a1,:");
        wrong(4, "a1,0/");
        wrong(4, "a1,0:");
        // Numbers that no message has are events that fail.
        failing("a1,1");
        failing("a1,150");
        failing("a1,999");
    }

    private static void eventsAreCalls() {
        CausalBroadcast x = Scene.members(7);
        CausalBroadcast y = Scene.members(7);
        x.broadcast(2, 50);
        x.broadcast(2, -999);
        x.broadcast(0, 3);
        x.arrive(0, 1);
        x.arrive(0, 0);
        x.arrive(0, 0);
        x.gossip(0, 2);
        x.gossip(2, 1);
        x.requestJoin(5);
        x.requestLeave(1);
        Scene.write(y, "b2=50;b2=-999;b0=3;a0,1;a0,0;a0,0;g0,2;g2,1;j5;l1");
        Edge.due(10, () -> y.run());
        Edge.same(Picture.of(x), Picture.of(y));
        x.install();
        Scene.write(y, "i");
        Edge.due(1, () -> y.run());
        Edge.same(Picture.of(x), Picture.of(y));
    }

    private static void theFirstWrongCharacter() {
        wrong(0, "xyz");
        wrong(1, "b6=1;?");
        wrong(3, "b0=?;?");
        wrong(10, "b0=1;a0,0;q");
        wrong(5, "b0=1;;");
        wrong(4, "b0=1i");
        // Every text is wrong from its first wrong character on, whatever stands behind it.
        wrong(1, "i?;i;i");
        wrong(59, "i;".repeat(29) + "ii");
        wrong(58, "i;".repeat(29) + "?i");
    }

    private static void unfinishedTexts() {
        String[] scripts = {"b0=1", "b0=-1", "a0,0", "g0,1", "j0", "l0"};
        for (String script : scripts) {
            for (int length = 0; length < script.length(); length++) {
                wrong(length, script.substring(0, length));
                wrong(2 + length, "i;" + script.substring(0, length));
            }
        }
        // A full input could not be finished, but a script starts with it.
        wrong(60, "i;".repeat(30));
        wrong(60, "i;".repeat(28) + "b0=-");
    }

    private static void everyCharacterIsTaken() {
        CausalBroadcast x = new CausalBroadcast();
        String text = "b1=-42";
        for (int i = 0; i < text.length(); i++) {
            char c = text.charAt(i);
            int length = i + 1;
            Edge.due(length, () -> x.append(c));
        }
        Edge.due(1, () -> x.run());
        Edge.due(-42, () -> x.state(1));
    }

    private static void codesFrom32To126() {
        for (int code = 32; code <= 126; code++) {
            char c = (char) code;
            CausalBroadcast x = new CausalBroadcast();
            Edge.due(1, () -> x.append(c));
        }
    }

    private static void lengthsFrom1To60() {
        CausalBroadcast x = new CausalBroadcast();
        for (int length = 1; length <= 60; length++) {
            Edge.due(length, () -> x.append('i'));
        }
        Edge.fails(Edge.ARGUMENT, () -> x.run());
        Edge.due(1, () -> x.append('i'));
    }

    private static void codesOutOfRange() {
        for (int code : new int[] {0, 1, 9, 10, 13, 30, 31, 127, 128, 255, 256, 288, 32767, 32768, 65535}) {
            Edge.refused(Edge.ARGUMENT, x -> x.append((char) code));
            Edge.refused(Edge.ARGUMENT, CausalBroadcast::new, x -> x.append((char) code));
        }
        // The code comes first where the input is full as well.
        Edge.refused(Edge.ARGUMENT, Scene::full, x -> x.append((char) 31));
        Edge.refused(Edge.ARGUMENT, Scene::full, x -> x.append((char) 127));
    }

    private static void the61stIsRefused() {
        CausalBroadcast x = new CausalBroadcast();
        Scene.write(x, SIXTY.substring(0, 59));
        Edge.due(60, () -> x.append('4'));
        Edge.fails(Edge.STATE, () -> x.append('5'));
        Edge.due(27, () -> x.run());
        Edge.due(19, () -> x.proposed());
        Edge.refused(Edge.STATE, Scene::full, y -> y.append('i'));
        Edge.refused(Edge.STATE, Scene::full, y -> y.append(' '));
        Edge.refused(Edge.STATE, Scene::full, y -> y.append('~'));
    }

    private static void eventsFollowOneAnother() {
        CausalBroadcast x = new CausalBroadcast();
        // Each event needs the ones before it.
        Scene.write(x, "j2;i;b2=5;a0,0;l0;l1;i;b2=6");
        Edge.due(8, () -> x.run());
        Edge.due(4, () -> x.membersOf(2));
        Edge.same("0 1", Scene.log(x, 2));
        Edge.due(161, () -> x.state(2));
        Edge.due(5, () -> x.state(0));
        Edge.due(1, () -> x.forcedIn(2) + x.logLength(0));
    }

    private static void aFailingEventUndoesAll() {
        // The first, one in the middle and the last event fail.
        failing("j0;b0=1;i");
        failing("b0=1;a1,0;a1,0;g1,0;l5;j0;i");
        failing("b0=1;a1,0;a1,0;g1,0;l5;i;b4=1;j5;j5");
        Edge.due(7, () -> runOf(emptied(), "i;b5=1;a0,5;l0;i;j0;b2=1"));
        Edge.refused(Edge.STATE, ScriptEdges::emptied, x -> runOf(x, "i;b5=1;a0,5;l0;i;j0;b2=1;b0=1"));
        CausalBroadcast x = Scene.lastView();
        Edge.due(2, () -> x.run());
        Scene.write(x, "b0=1;i");
        Edge.fails(Edge.STATE, () -> x.run());
        Edge.due(1, () -> x.messageCount());
        CausalBroadcast y = Scene.oneSender();
        Scene.write(y, "i;j5;b0=1");
        Edge.fails(Edge.STATE, () -> y.run());
        Edge.due(0, () -> y.view());
        Edge.due(3, () -> y.proposed());
        Edge.due(150, () -> y.inTransit(1));
    }

    /** The busy group after its own script, with an empty input. */
    private static CausalBroadcast emptied() {
        CausalBroadcast x = Scene.busy();
        x.run();
        return x;
    }

    private static int runOf(CausalBroadcast x, String text) {
        Scene.write(x, text);
        return x.run();
    }

    private static void theInputIsEmptyAfterwards() {
        // A script, a script that fails, and a text that is none.
        String[] texts = {"b0=1", "b0=1;j0", "b0=1;x", ""};
        for (String text : texts) {
            CausalBroadcast x = new CausalBroadcast();
            Scene.write(x, text);
            Picture.ask(x, "run");
            Edge.due(1, () -> x.append('i'));
            Edge.due(1, () -> x.run());
            Edge.due(1, () -> x.view());
            Edge.fails(Edge.ARGUMENT, () -> x.run());
            Edge.due(0, () -> x.errorPosition());
        }
    }

    private static void from1To27Events() {
        taken(1, "i");
        taken(2, "b0=1;b0=1");
        CausalBroadcast x = new CausalBroadcast();
        Scene.write(x, SIXTY);
        Edge.due(27, () -> x.run());
        // Thirty events fit in, but there are only twenty more views.
        failing("i;".repeat(29) + "i");
        taken(20, "i;".repeat(19) + "i");
        failing("i;".repeat(20) + "i");
    }

    private static void textsThatAreNoScripts() {
        wrong(0, "");
        wrong(0, "B0=1");
        wrong(4, "b0=1?");
        // An event that would fail stands before the wrong character, which counts first.
        wrong(5, "j0;j0?");
        wrong(5, "j0;i;");
    }

    private static void eachKindOfEventCanFail() {
        for (String script : new String[] {"b2=1", "a2,0", "a0,1", "g0,0", "g0,2", "g2,0", "j0", "l2", "l0;l1",
            "i;a1,0", "l0;i;b0=1", "l0;i;a0,0", "i;g0,2", "l0;i;l1"}) {
            CausalBroadcast x = new CausalBroadcast();
            x.broadcast(0, 3);
            String before = Picture.of(x);
            Scene.write(x, script);
            Edge.fails(Edge.STATE, () -> x.run());
            Edge.same(before, Picture.of(x));
        }
        CausalBroadcast last = Scene.lastView();
        last.run();
        Scene.write(last, "i");
        Edge.fails(Edge.STATE, () -> last.run());
        CausalBroadcast full = Scene.oneSender();
        Scene.write(full, "b1=1");
        Edge.fails(Edge.STATE, () -> full.run());
    }

    private static void theLastErrorIsKept() {
        Edge.asked(2, Scene::busy, x -> x.errorPosition());
        CausalBroadcast x = new CausalBroadcast();
        String[] texts = {"b0=1?", "?", "i;i;?", ""};
        int[] due = {4, 0, 4, 0};
        for (int i = 0; i < texts.length; i++) {
            Scene.write(x, texts[i]);
            Edge.fails(Edge.ARGUMENT, () -> x.run());
            int position = due[i];
            Edge.due(position, () -> x.errorPosition());
            // Neither a script nor one that fails replaces it.
            Scene.write(x, "b0=1");
            Edge.due(1, () -> x.run());
            Scene.write(x, "b0=1;j0");
            Edge.fails(Edge.STATE, () -> x.run());
            Edge.due(position, () -> x.errorPosition());
        }
    }

    private static void errorsFrom0To60() {
        wrong(0, "");
        wrong(0, "?".repeat(60));
        wrong(59, "i;".repeat(29) + "i?");
        wrong(60, "i;".repeat(30));
    }

    private static void noErrorWasKept() {
        Edge.refused(Edge.ELEMENT, CausalBroadcast::new, x -> x.errorPosition());
        CausalBroadcast x = new CausalBroadcast();
        Scene.write(x, "i");
        x.run();
        Edge.fails(Edge.ELEMENT, () -> x.errorPosition());
        Scene.write(x, "j0");
        Edge.fails(Edge.STATE, () -> x.run());
        Edge.fails(Edge.ELEMENT, () -> x.errorPosition());
        Scene.write(x, "?");
        // The input alone keeps none.
        Edge.fails(Edge.ELEMENT, () -> x.errorPosition());
        Edge.fails(Edge.ARGUMENT, () -> x.run());
        Edge.due(0, () -> x.errorPosition());
    }
}
