/** The bounds that promises 1 to 16 name beside refused calls; a method for each sentence. */
public final class PromiseBoundsTest {
    private static final Due DUE = new Due();
    private static final String OPEN = "open 0 decode 0 0; ";
    private static final String FAULT = OPEN + "give 255; give 65; code go; ";

    public static void main(String[] args) {
        newObjectsHaveNoCoder();
        newObjectsHaveNoPage();
        newObjectsHaveRoomForSixteen();
        openBounds();
        openTakesThePlace();
        openLeavesPageAndRoom();
        mapBounds();
        mapTakesThePlace();
        mapWithoutACharacter();
        giveBehindTheOthers();
        giveInEachState();
        roomBounds();
        roomBelowWhatIsReady();
        codeInEachState();
        codeWhateverTheAnswer();
        flushInEachState();
        flushNeedsRoom();
        flushOfAllOthers();
        resetInEachState();
        resetLeavesUnitsAndCounts();
        passAfterAnswers();
        passAfterOtherCalls();
        passTheSecondTime();
        fetchInOrder();
        fetchAtTheBounds();
        statesAndCountsWithoutACoder();
        takenPutAndFaultsSinceOpened();
        callsUpTo512();
        DUE.end();
    }

    private static void due(String what, String calls, String want) {
        DUE.same(what, new Calls().make(calls), want);
    }

    /** Makes the calls before, and compares only the answers that come then. */
    private static void due(String what, String before, String calls, String want) {
        Calls made = new Calls();
        made.make(before);
        DUE.same(what, made.make(calls), want);
    }

    /** Promise 1: "No coder is open". */
    private static void newObjectsHaveNoCoder() {
        due("1 nothing is open", "counts; give 0; code go; code end; flush; reset; pass; fetch",
                "[-1 0 0 0 0 0] 0 -1 -1 -1 0 0 -1");
        due("1 until open", "room 1; map 128 65; state; open 7 decode 0 0; state; open 6 decode 0 0;"
                + " state", "1 1 -1 0 -1 1 0");
    }

    /** Promise 1: "no byte of the page has a character". */
    private static void newObjectsHaveNoPage() {
        due("1 the first and the last byte", "open 6 decode 0 2; give 128; give 255; code end; all",
                "1 1 1 0 <65533 65533>");
        due("1 as characters", "open 6 encode 0 2; give 128; give 255; give 0; code end; all",
                "1 1 1 1 0 <63 63 0>");
        Calls other = new Calls();
        other.make("map 128 65; room 0; open 6 decode 2 2; give 128; code go");
        due("1 each object for itself", "state; open 6 decode 0 0; give 128; code end",
                "-1 1 1 33");
    }

    /** Promise 1: "the room is 16". */
    private static void newObjectsHaveRoomForSixteen() {
        due("1 sixteen fit", OPEN + Calls.times(16, "give 65"), "code go; counts",
                "0 [1 0 16 16 16 0]");
        due("1 seventeen do not", OPEN + Calls.times(17, "give 65"), "code go; counts",
                "1 [1 1 16 16 16 0]");
    }

    /** Promise 2: "Refused (false) when set is not 0 .. 6 or an action is not 0 .. 2." */
    private static void openBounds() {
        due("2 set", "open -1 decode 0 0; open 0 decode 0 0; open 6 decode 0 0; open 7 decode 0 0",
                "0 1 1 0");
        due("2 set, encoding",
                "open -1 encode 0 0; open 0 encode 0 0; open 6 encode 0 0; open 7 encode 0 0",
                "0 1 1 0");
        due("2 bad", "open 0 decode -1 0; open 0 decode 0 0; open 0 decode 2 0; open 0 decode 3 0",
                "0 1 1 0");
        due("2 unknown",
                "open 6 decode 0 -1; open 6 decode 0 0; open 6 decode 0 2; open 6 decode 0 3",
                "0 1 1 0");
    }

    /** Promise 2: "in place of the one that is open; no units wait or are ready, ..." */
    private static void openTakesThePlace() {
        String[] before = {"", "open 5 encode 0 0; give 228; code go; give 228; ", FAULT,
            OPEN + Calls.times(24, "give 65") + "code end; ",
            "open 2 decode 1 1; give 255; give 254; give 65; give 0; give 0; give 220; code end; "
                + "flush; "};
        for (String calls : before) {
            for (int set = 0; set < 7; set++) {
                due("2 decoding in place of " + calls, calls,
                        "open " + set + " decode 0 0; counts; fetch; pass; code end; counts",
                        "1 [0 0 0 0 0 0] -1 0 0 [2 0 0 0 0 0]");
                due("2 encoding in place of " + calls, calls,
                        "open " + set + " encode 0 0; counts; fetch; pass; code end; flush; counts",
                        "1 [0 0 0 0 0 0] -1 0 0 0 [3 0 0 0 0 0]");
            }
        }
    }

    /** Promise 2: "(page and room stay)". */
    private static void openLeavesPageAndRoom() {
        due("2 page and room", "map 128 300; room 1; " + OPEN + "open 6 decode 0 0; give 128; "
                + "give 128; ", "code go; all; code go; all", "1 <300> 0 <300>");
        due("2 room 0", "room 0; " + OPEN + "give 65; ", "code go; ready", "1 0");
        due("2 room 16", "room 0; room 16; " + OPEN + Calls.times(17, "give 65"),
                "code go; ready", "1 16");
    }

    /** Promise 3: "Refused (false) when b is not 128 .. 255 or c not -1 .. 65535." */
    private static void mapBounds() {
        due("3 bytes", "map 127 300; map 128 300; map 255 300; map 256 300", "0 1 1 0");
        due("3 characters", "map 128 -2; map 128 -1; map 128 0; map 128 65535; map 128 65536",
                "0 1 1 1 0");
        due("3 characters of the last byte",
                "map 255 -2; map 255 -1; map 255 0; map 255 65535; map 255 65536", "0 1 1 1 0");
        due("3 what they gave", "map 128 0; map 255 65535; open 6 decode 0 0; give 128; give 255; "
                + "code end; all", "1 1 1 1 1 0 <0 65535>");
    }

    /** Promise 3: "another byte may have it, too"; "in place of the one it has"; "at once". */
    private static void mapTakesThePlace() {
        due("3 two bytes", "map 128 300; map 255 300; open 6 decode 0 0; give 128; give 255; ",
                "code end; all", "0 <300 300>");
        due("3 the same again", "map 128 300; map 128 300; open 6 encode 0 0; give 300; ",
                "code end; all", "0 <128>");
        due("3 in place", "map 128 300; map 128 301; open 6 encode 0 2; give 300; give 301; ",
                "code end; all", "0 <63 128>");
        due("3 at once, decoding", "open 6 decode 0 0; give 200; code go; ",
                "map 200 300; code go; all", "1 0 <300>");
        due("3 at once, encoding", "open 6 encode 0 0; give 300; code end; ",
                "map 200 300; code end; all", "1 0 <200>");
        due("3 not what is ready", "map 200 300; open 6 decode 0 0; give 200; code go; ",
                "map 200 301; all", "1 <300>");
    }

    /** Promise 3: "or none for c = -1". */
    private static void mapWithoutACharacter() {
        due("3 none where none is", "map 128 -1; open 6 decode 0 0; give 128; code go",
                "1 1 1 33");
        due("3 none any more", "map 128 300; map 128 -1; map 128 -1; open 6 decode 0 0; give 128; ",
                "code go", "33");
        due("3 only that byte", "map 128 300; map 129 300; map 128 -1; open 6 encode 0 0; "
                + "give 300; ", "code go; all", "0 <129>");
        due("3 while it waits", "map 128 300; open 6 decode 0 0; give 128; map 128 -1; ",
                "code go", "33");
    }

    /** Promise 4: "A unit more waits, behind the others." */
    private static void giveBehindTheOthers() {
        due("4 in order", OPEN + "give 1; give 2; code go; give 3; give 4; ", "code go; all",
                "0 <1 2 3 4>");
        due("4 behind those that wait", OPEN + "give 226; code go; give 130; code go; give 172; ",
                "code go; all", "0 <8364>");
        due("4 counts", OPEN, "waiting; give 65; waiting; give 65; waiting; taken", "0 1 1 1 2 0");
    }

    /** Promise 4: refused only "when no coder is open, 24 wait, or unit is not one ..." */
    private static void giveInEachState() {
        due("4 no coder", "give 65", "0");
        due("4 fresh", OPEN + "give 65; state", "1 1 0");
        due("4 coding", OPEN + "code go; give 65; state; waiting", "1 0 1 1 1");
        due("4 ended", OPEN + "code end; give 65; state; waiting", "1 0 1 2 1");
        due("4 flushed", OPEN + "code end; flush; give 65; state; waiting", "1 0 0 1 3 1");
        due("4 the 24th and the 25th, flushed",
                OPEN + "code end; flush; " + Calls.times(23, "give 65"),
                "give 65; give 65; waiting", "1 0 24");
    }

    /** Promise 5: "Refused (false) when n is not 0 .. 16." */
    private static void roomBounds() {
        due("5 bounds", "room -1; room 0; room 16; room 17", "0 1 1 0");
        due("5 each", "room 1; room 2; room 7; room 8; room 15", "1 1 1 1 1");
        due("5 no room", OPEN + "give 65; room 0; ", "code go; ready", "1 0");
        due("5 the most room", OPEN + "room 0; room 16; " + Calls.times(24, "give 65"),
                "code go; ready", "1 16");
        due("5 room 15", OPEN + "room 15; " + Calls.times(24, "give 65"), "code go; ready", "1 15");
    }

    /** Promise 5: "(units that are ready stay, also when they are more)". */
    private static void roomBelowWhatIsReady() {
        due("5 they stay", OPEN + Calls.times(16, "give 65") + "code go; ",
                "room 0; counts; give 65; code go; ready; fetch; code go; ready",
                "1 [1 0 16 16 16 0] 1 1 16 65 1 15");
        due("5 as many as ready", OPEN + "give 1; give 2; code go; give 3; ",
                "room 2; code go; fetch; code go; all", "1 1 1 0 <2 3>");
        due("5 one less than ready", OPEN + "give 1; give 2; code go; give 3; ",
                "room 1; code go; fetch; code go; fetch; code go; all", "1 1 1 1 2 0 <3>");
    }

    /** Promise 6: "Refused (-1) when no coder is open, it is flushed, or it is ended and ..." */
    private static void codeInEachState() {
        due("6 no coder", "code go; code end; state", "-1 -1 -1");
        due("6 fresh", OPEN + "code go; state", "1 0 1");
        due("6 fresh, the end", OPEN + "code end; state", "1 0 2");
        due("6 coding", OPEN + "code go; code go; state", "1 0 0 1");
        due("6 coding, the end", OPEN + "code go; code end; state", "1 0 0 2");
        due("6 ended", OPEN + "code end; code go; state", "1 0 -1 2");
        due("6 ended, the end", OPEN + "code end; code end; state", "1 0 0 2");
        due("6 flushed", OPEN + "code end; flush; code go; code end; state", "1 0 0 -1 -1 3");
        due("6 reset", OPEN + "code end; flush; reset; code go; state", "1 0 0 1 0 1");
    }

    /** Promise 6: "Otherwise it is ended ... or coding ..., whatever the answer is." */
    private static void codeWhateverTheAnswer() {
        String[] units = {"", "give 65; ", "give 255; ", "give 226; ", "room 0; give 65; "};
        int[] answers = {0, 0, 17, 0, 1};
        int[] answersAtTheEnd = {0, 0, 17, 17, 1};
        for (int i = 0; i < units.length; i++) {
            due("6 coding by " + units[i], OPEN + units[i], "code go; state", answers[i] + " 1");
            due("6 ended by " + units[i], OPEN + units[i], "code end; state",
                    answersAtTheEnd[i] + " 2");
            due("6 ended from coding by " + units[i], OPEN + units[i] + "code go; ",
                    "code end; state; code go; state", answersAtTheEnd[i] + " 2 -1 2");
        }
        due("6 unknown", "open 6 decode 0 0; give 128; ", "code end; state", "33 2");
    }

    /** Promise 7: "Refused (-1) when no coder is open, or it is fresh or coding." */
    private static void flushInEachState() {
        due("7 no coder", "flush; state", "-1 -1");
        due("7 fresh", OPEN + "flush; state", "1 -1 0");
        due("7 coding", OPEN + "code go; flush; state", "1 0 -1 1");
        due("7 ended", OPEN + "code end; flush; state", "1 0 0 3");
        due("7 flushed", OPEN + "code end; flush; flush; state", "1 0 0 0 3");
        due("7 reset", OPEN + "code end; flush; reset; flush; state", "1 0 0 1 -1 0");
        due("7 units that wait go on waiting", OPEN + "give 226; code end; give 65; ",
                "flush; counts", "0 [3 2 0 0 0 0]");
    }

    /** Promise 7: "when these would make more units ready than the room says, the answer is 1" */
    private static void flushNeedsRoom() {
        String[] shifts = {"give 255; ", "give 255; give 255; ", "give 255; give 255; give 255; "};
        String[] puts = {"56 45", "119 45", "45"};
        int[] needs = {2, 2, 1};
        for (int i = 0; i < shifts.length; i++) {
            String before = "open 5 encode 0 0; " + shifts[i] + "code end; all; ";
            for (int room = 0; room < needs[i]; room++) {
                due("7 " + shifts[i] + room, before, "room " + room + "; flush; state; ready; flush",
                        "1 1 2 0 1");
            }
            due("7 " + shifts[i] + needs[i], before,
                    "room " + needs[i] + "; flush; state; all; flush; all",
                    "1 0 3 <" + puts[i] + "> 0 <>");
        }
        String full = "open 5 encode 0 0; give 228; code end; ";
        due("7 behind three", full, "room 4; flush; room 5; flush; all", "1 1 1 0 <43 65 79 81 45>");
        due("7 fetched", full, "room 3; flush; fetch; flush; fetch; flush; all",
                "1 1 43 1 65 0 <79 81 45>");
        due("7 more ready than the room", full, "room 0; flush; ready; state", "1 1 3 2");
        due("7 it takes nothing", full + "give 65; ", "counts; flush; counts",
                "[2 1 3 1 3 0] 0 [3 1 5 1 5 0]");
        due("7 it is plain", full + "flush; all; reset; give 65; ", "code end; all; flush; all",
                "0 <65> 0 <>");
    }

    /** Promise 7: "An encoding one of set 5 that is shifted": all others put nothing. */
    private static void flushOfAllOthers() {
        due("7 plain", "open 5 encode 0 0; give 65; code end; room 0; ", "flush; all", "0 <65>");
        due("7 plain again", "open 5 encode 0 0; give 228; give 65; code end; all; room 0; ",
                "flush; all", "0 <>");
        due("7 decoding", "open 5 decode 0 0; give 43; give 65; code end; room 0; ",
                "flush; counts", "0 [3 0 0 2 0 0]");
        for (int set = 0; set < 7; set++) {
            due("7 decoding set " + set, "open " + set + " decode 0 0; code end; room 0; ",
                    "flush; counts", "0 [3 0 0 0 0 0]");
            due("7 encoding set " + set, "open " + set + " encode 0 0; code end; room 0; ",
                    "flush; counts", "0 [3 0 0 0 0 0]");
        }
    }

    /** Promise 8: "The coder is fresh"; "Refused (false) when no coder is open." */
    private static void resetInEachState() {
        due("8 no coder", "reset; state", "0 -1");
        due("8 fresh", OPEN + "reset; state", "1 1 0");
        due("8 coding", OPEN + "code go; reset; state", "1 0 1 0");
        due("8 ended", OPEN + "code end; reset; state; code go", "1 0 1 0 0");
        due("8 flushed", OPEN + "code end; flush; reset; state; code go", "1 0 0 1 0 0");
        due("8 twice", OPEN + "code end; reset; reset; state", "1 0 1 1 0");
    }

    /** Promise 8: "waiting and ready units, and all that is counted, stay". */
    private static void resetLeavesUnitsAndCounts() {
        due("8 the counts", "open 0 decode 1 0; room 1; give 255; give 1; give 2; code go; ",
                "counts; reset; counts; code go; counts; fetch; code go; counts",
                "[1 1 1 2 1 1] 1 [0 1 1 2 1 1] 1 [1 1 1 2 1 1] 1 0 [1 0 1 3 2 1]");
        due("8 full", OPEN + Calls.times(24, "give 65"), "reset; waiting; give 65", "1 24 0");
        due("8 full of ready ones", OPEN + Calls.times(16, "give 65") + "code end; flush; ",
                "reset; counts; give 65; code go", "1 [0 0 16 16 16 0] 1 1");
        due("8 room and page", "map 128 300; room 1; open 6 decode 0 0; reset; give 128; give 65; ",
                "code go; all", "1 <300>");
        due("8 the actions", "open 6 encode 1 2; reset; give 56320; give 300; ", "code go; all",
                "0 <63>");
    }

    /** Promise 9: "After an answer of code that was 16 or more". */
    private static void passAfterAnswers() {
        due("9 never coded", OPEN + "give 255; ", "pass; waiting", "0 1");
        due("9 after 0", OPEN + "give 226; code go; ", "pass; waiting", "0 1");
        due("9 after 1", OPEN + "room 0; give 65; code go; ", "pass; waiting", "0 1");
        due("9 after 1 for a replacement", "open 0 decode 2 0; room 0; give 255; code go; ",
                "pass; counts", "0 [1 1 0 0 0 0]");
        due("9 after -1 alone", "code go; ", "pass", "0");
        due("9 after 17", OPEN + "give 255; give 65; code go; ", "pass; counts",
                "1 [1 1 0 1 0 1]");
        due("9 after 18", OPEN + "give 224; give 160; give 65; code go; ", "pass; counts",
                "1 [1 1 0 2 0 1]");
        due("9 after 19", OPEN + "give 240; give 144; give 128; give 65; code go; ", "pass; counts",
                "1 [1 1 0 3 0 1]");
        due("9 after 33", "open 6 decode 0 0; give 200; give 65; code go; ", "pass; counts",
                "1 [1 1 0 1 0 1]");
        due("9 after 34", "open 6 encode 0 0; give 55296; give 56320; give 65; code go; ",
                "pass; counts", "1 [1 1 0 2 0 1]");
        due("9 passed over by its action", "open 0 decode 1 0; give 255; code go; ",
                "pass; counts", "0 [1 0 0 1 0 1]");
    }

    /** "without another call of code, reset, give, map or open that was not refused since then" */
    private static void passAfterOtherCalls() {
        String[] ending = {"give 65", "map 128 65", "map 128 -1", "reset", "open 0 decode 0 0",
            "open 6 encode 2 2"};
        for (String call : ending) {
            due("9 after " + call, FAULT + call + "; ", "pass; faults", "0 0");
        }
        due("9 after code with another answer", OPEN + "give 226; code end; give 130; give 172; "
                + "code end; ", "pass", "0");
        due("9 after code with a fault again", FAULT + "code go; ", "pass; counts",
                "1 [1 1 0 1 0 1]");
        String[] leaving = {"room 0", "room 16", "room 17", "room -1", "fetch", "flush", "give 256",
            "give -1", "map 127 65", "map 128 -2", "open 7 decode 0 0", "open 0 decode 3 0",
            "state; waiting; ready; taken; put; faults"};
        for (String call : leaving) {
            due("9 still after " + call, FAULT + call + "; ", "pass; counts", "1 [1 1 0 1 0 1]");
        }
        String ended = OPEN + "give 255; give 65; code end; ";
        due("9 still after code that is refused", ended + "code go; ", "pass; counts",
                "1 [2 1 0 1 0 1]");
        due("9 still after flush", ended + "flush; flush; ", "pass; counts", "1 [3 1 0 1 0 1]");
        due("9 still after code refused by a flushed one", ended + "flush; code go; code end; ",
                "pass; counts", "1 [3 1 0 1 0 1]");
        due("9 still after a 25th unit", OPEN + Calls.times(24, "give 255") + "code go; give 65; ",
                "pass; counts", "1 [1 23 0 1 0 1]");
    }

    /** "so it is refused the second time" */
    private static void passTheSecondTime() {
        due("9 twice", OPEN + "give 255; give 255; code go; ", "pass; pass; counts",
                "1 0 [1 1 0 1 0 1]");
        due("9 after code again", OPEN + "give 255; give 255; code go; pass; ",
                "code go; pass; pass; counts", "17 1 0 [1 0 0 2 0 2]");
    }

    /** Promise 10: "Fetches the unit that has been ready longest". */
    private static void fetchInOrder() {
        due("10 in order", OPEN + "give 1; give 2; code go; give 3; code go; ",
                "fetch; fetch; fetch; fetch", "1 2 3 -1");
        due("10 a unit 0", OPEN + "give 0; code go; ", "fetch; fetch", "0 -1");
        due("10 the order goes on", OPEN + "room 2; give 1; give 2; give 3; give 4; code go; ",
                "fetch; code go; fetch; fetch; code go; fetch; fetch", "1 1 2 3 0 4 -1");
    }

    /** Promise 10: "-1 when none is ready": empty, full, and in each state. */
    private static void fetchAtTheBounds() {
        due("10 no coder", "fetch; counts", "-1 [-1 0 0 0 0 0]");
        due("10 fresh", OPEN + "fetch; counts", "1 -1 [0 0 0 0 0 0]");
        due("10 while units wait", OPEN + "give 65; fetch; counts", "1 1 -1 [0 1 0 0 0 0]");
        due("10 sixteen", OPEN + Calls.times(16, "give 65") + "code end; flush; "
                + Calls.times(15, "fetch"), "fetch; fetch; counts", "65 -1 [3 0 0 16 16 0]");
        due("10 opened again", OPEN + "give 65; code go; " + OPEN, "fetch", "-1");
        due("10 what flush put", "open 5 encode 0 0; give 228; code end; all; flush; ",
                "fetch; fetch; fetch", "81 45 -1");
    }

    /** Promise 11: "-1 when no coder is open (the five counts below are 0 then)". */
    private static void statesAndCountsWithoutACoder() {
        due("11 new", "state; waiting; ready; taken; put; faults", "-1 0 0 0 0 0");
        due("11 after refused ones", "open 7 decode 0 0; give 65; code end; pass; counts",
                "0 0 -1 0 [-1 0 0 0 0 0]");
        due("11 all four", OPEN + "state; code go; state; code end; state; flush; state; reset; "
                + "state", "1 0 0 1 0 2 0 3 1 0");
        due("12 to 16 opened", OPEN + "waiting; ready; taken; put; faults", "1 0 0 0 0 0");
    }

    /** Promises 14 to 16: "since it was opened": reset leaves them, open ends them. */
    private static void takenPutAndFaultsSinceOpened() {
        String before = "open 0 decode 2 0; give 65; give 255; code go; fetch; ";
        due("14 to 16", before, "taken; put; faults; fetch; put", "2 2 1 65533 2");
        due("14 to 16 reset", before + "reset; give 255; code end; ", "taken; put; faults",
                "3 3 2");
        due("14 to 16 opened", before + "open 0 decode 2 0; give 255; code end; ",
                "taken; put; faults", "1 1 1");
        due("14 and 16 by pass", FAULT + "pass; ", "taken; put; faults", "1 0 1");
        due("16 reported is not counted", FAULT, "taken; put; faults", "0 0 0");
        due("15 a mark", "open 2 encode 0 0; give 55296; code go; ", "taken; put; faults", "0 2 0");
        due("14 a mark", "open 2 decode 0 0; give 255; give 254; code go; ", "taken; put; faults",
                "2 0 0");
        due("15 flush", "open 5 encode 0 0; give 228; code end; ", "put; flush; put", "3 0 5");
    }

    /** "An object is used for at most 512 calls": the last of them still counts. */
    private static void callsUpTo512() {
        Calls calls = new Calls();
        calls.make(OPEN);
        for (int i = 0; i < 127; i++) {
            DUE.same("round " + i, calls.make("give " + i + "; code go; fetch; ready"),
                    "1 0 " + i + " 0");
        }
        DUE.same("calls 510 and 511", calls.make("give 255; code end"), "1 17");
        DUE.same("made", calls.made(), 511);
        DUE.same("call 512", calls.make("pass"), "1");
        Calls counts = new Calls();
        counts.make(OPEN);
        for (int i = 0; i < 170; i++) {
            counts.make("give 65; code go; fetch");
        }
        DUE.same("call 512", counts.make("taken") + counts.made(), "170512");
    }
}
