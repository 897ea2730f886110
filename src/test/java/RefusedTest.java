/**
 * "A call that is refused changes nothing." Each state is made twice, the refused call is made in
 * one of the two, and what both answer to the same calls from then on has to be the same. The rows
 * of probes bring to light what the counts don't tell: the set, the direction and the actions, the
 * page and the room, the bits that are kept, the order of the bytes, the leave to pass.
 */
public final class RefusedTest {
    private static final Due DUE = new Due();
    private static final String MOST = " " + Integer.MAX_VALUE;
    private static final String LEAST = " " + Integer.MIN_VALUE;

    /** Each row: calls that make a state, then the calls that are refused in it beside WRONG. */
    private static final String[][] NO_CODER = {
        {"", "code go", "code end", "flush", "reset", "pass", "give 65"},
        {"map 128 8364; room 3", "code go", "code end", "flush", "reset", "pass", "give 65"},
        {"open 7 decode 0 0; map 255 55296", "code end", "flush", "reset", "pass", "give 0"},
    };

    private static final String[][] FRESH = {
        {"open 0 decode 0 0", "flush", "pass", "give 256"},
        {"open 1 encode 2 1; room 0", "flush", "pass", "give 65536"},
        {"open 6 encode 1 2; map 128 300; give 300; give 301", "flush", "pass"},
        {"open 3 decode 0 2; " + Calls.times(24, "give 65"), "flush", "pass", "give 65"},
        {"open 5 encode 0 0; give 228; code go; reset", "flush", "pass"},
        {"open 2 decode 0 0; give 255; give 254; give 65; give 0; code go; reset; give 65",
            "flush", "pass"},
        {"open 0 decode 0 0; give 255; code end; reset", "flush", "pass"},
        {"open 0 decode 0 0; give 65; code end; flush; reset", "flush", "pass"},
    };

    private static final String[][] CODING = {
        {"open 0 decode 0 0; give 226; give 130; code go", "flush", "pass"},
        {"open 0 decode 2 1; room 1; give 65; give 66; give 255; code go", "flush", "pass"},
        {"open 0 decode 0 1; give 65; give 226; give 130; give 65; code go", "flush"},
        {"open 6 encode 0 0; give 55296; give 56320; give 65; code go", "flush"},
        {"open 6 decode 1 0; map 200 65; give 200; give 201; code go", "flush"},
        {"open 0 decode 0 0; " + Calls.times(24, "give 255") + "code go", "flush", "give 65"},
        {"open 0 decode 0 0; give 255; give 255; code go; pass", "flush", "pass"},
        {"open 0 decode 0 0; give 255; code go; give 65", "flush", "pass"},
        {"open 0 decode 0 0; give 255; code go; map 128 65", "flush", "pass"},
        {"open 5 encode 0 0; give 228; code go", "flush", "pass"},
        {"open 5 encode 0 0; give 228; give 228; give 228; code go; give 228", "flush", "pass"},
        {"open 5 decode 0 0; give 43; code go", "flush", "pass"},
        {"open 5 decode 0 0; give 43; give 65; give 79; code go; give 81", "flush", "pass"},
        {"open 5 decode 0 0; give 43; give 65; give 33; code go", "flush"},
        {"open 2 decode 0 0; give 255; give 254; code go; give 65", "flush", "pass"},
        {"open 2 decode 0 0; give 220; give 0; give 254; give 255; code go", "flush"},
        {"open 2 encode 0 0; room 1; give 65; code go", "flush", "pass"},
        {"open 2 encode 0 0; give 65; code go", "flush", "pass"},
    };

    private static final String[][] ENDED = {
        {"open 0 decode 0 0; code end", "code go", "pass"},
        {"open 0 decode 0 0; give 226; give 130; code end", "code go"},
        {"open 0 decode 0 0; give 226; give 130; code end; pass", "code go", "pass"},
        {"open 0 encode 2 0; give 55296; code end; give 65", "code go", "pass"},
        {"open 4 encode 2 0; room 1; give 55296; code end", "code go", "pass"},
        {"open 5 encode 0 0; give 228; code end", "code go", "pass"},
        {"open 5 encode 0 0; give 228; code end; room 1; flush", "code go", "pass"},
        {"open 6 encode 0 0; give 300; code end; " + Calls.times(23, "give 65"),
            "code go", "pass", "give 65"},
        {"open 2 decode 0 0; give 255; give 254; give 61; give 216; code end", "code go"},
    };

    private static final String[][] FLUSHED = {
        {"open 0 decode 0 0; code end; flush", "code go", "code end", "pass"},
        {"open 0 decode 0 0; give 255; give 65; code end; flush", "code go", "code end"},
        {"open 0 decode 0 0; code end; flush; " + Calls.times(24, "give 65"),
            "code go", "code end", "pass", "give 65"},
        {"open 5 encode 0 0; give 228; code end; flush; give 228", "code go", "code end", "pass"},
        {"open 5 decode 0 0; give 43; give 65; code end; flush; give 79",
            "code go", "code end", "pass"},
        {"open 6 encode 0 0; give 55296; code end; flush; give 56320",
            "code go", "code end", "pass"},
        {"open 2 decode 0 0; give 255; give 254; code end; flush; give 65",
            "code go", "code end", "pass"},
    };

    /** Calls that are refused in every state. */
    private static final String[] WRONG = {
        "open -1 decode 1 2", "open 7 decode 2 1", "open -1 encode 2 2", "open 7 encode 0 0",
        "open" + LEAST + " encode 0 0", "open" + MOST + " decode 0 0",
        "open 3 encode -1 2", "open 3 encode 3 2", "open 2 decode" + MOST + " 1",
        "open 4 decode 1 -1", "open 4 decode 1 3", "open 5 encode 2" + LEAST,
        "map 127 300", "map 256 300", "map 127 -1", "map 0 0", "map -1 65",
        "map" + LEAST + " 65", "map" + MOST + " 65",
        "map 128 -2", "map 128 65536", "map 255 -2", "map 255 65536",
        "map 200" + LEAST, "map 200" + MOST,
        "room -1", "room 17", "room" + LEAST, "room" + MOST,
        "give -1", "give 65536", "give" + LEAST, "give" + MOST,
    };

    /** States in which flush answers 1: "the answer is 1 and nothing changes". */
    private static final String[] FLUSHES_THAT_DO_NOT_FIT = {
        "open 5 encode 0 0; give 228; code end; room 4",
        "open 5 encode 0 0; give 228; code end; all; room 1; give 65",
        "open 5 encode 0 0; give 228; give 228; give 228; code end; all; room 0",
        "open 5 encode 2 2; give 228; code end; room 0; " + Calls.times(24, "give 228"),
    };

    private static final String[] PROBES = {
        "counts; pass; counts; pass; code go; all; counts; code end; all; counts; pass; flush; all",
        "code go; counts; pass; counts; all; code go; all; code end; all; counts; flush; counts",
        "code end; pass; all; code end; all; code end; all; counts; flush; all; counts",
        "flush; all; counts; pass; counts; code go; counts; all; reset; code end; all; counts",
        "reset; counts; room 16; all; code end; all; pass; code end; all; flush; all; counts",
        "all; give 65; give 45; give 81; give 45; give 33; code end; all; pass; code end; all;"
            + " room 16; code end; all; code end; flush; all; counts",
        "all; give 228; give 0; give 55296; give 255; give 56320; give 56320; code end; all; pass;"
            + " code end; all; pass; room 16; code end; all; code end; flush; all; counts",
        "all; give 255; give 254; give 65; give 0; code go; all; pass; code go; all; counts",
        "open 0 decode 0 0; " + Calls.times(17, "give 65") + "code go; counts",
        "fetch; counts; fetch; counts; give 254; give 255; code go; all; counts",
    };

    public static void main(String[] args) {
        compare("no coder", NO_CODER, -1);
        compare("fresh", FRESH, 0);
        compare("coding", CODING, 1);
        compare("ended", ENDED, 2);
        compare("flushed", FLUSHED, 3);
        fetchWithNoneReady();
        flushWithoutRoom();
        flushOfAFlushedOne();
        DUE.end();
    }

    private static void compare(String name, String[][] rows, int state) {
        for (String[] row : rows) {
            Calls made = new Calls();
            made.make(row[0]);
            DUE.same(name + ": " + row[0], made.make("state"), "" + state);
            for (int i = 1; i < row.length; i++) {
                changesNothing(name + ": " + row[0], row[0], row[i]);
            }
            for (String wrong : WRONG) {
                changesNothing(name + ": " + row[0], row[0], wrong);
            }
        }
    }

    private static void changesNothing(String name, String before, String refused) {
        boolean counted = refused.startsWith("code") || refused.startsWith("flush");
        String want = counted ? "-1" : "0";
        for (String probe : PROBES) {
            compareOne(name, before, refused, want, probe);
        }
        compareOne(name, before, refused, want, pageProbe());
    }

    /** One object makes the call before the probe, and the other one doesn't. */
    private static void compareOne(String name, String before, String call, String want,
            String probe) {
        Calls with = new Calls();
        Calls without = new Calls();
        with.make(before);
        without.make(before);
        String what = name + " | " + call;
        DUE.same(what, with.make(call), want);
        DUE.same(what + " | " + probe, with.make(probe), without.make(probe));
    }

    /** The whole page, read by a decoder. */
    private static String pageProbe() {
        StringBuilder calls = new StringBuilder("room 16; open 6 decode 0 2; ");
        for (int b = 128; b < 256; b += 16) {
            for (int i = b; i < b + 16; i++) {
                calls.append("give ").append(i).append("; ");
            }
            calls.append("code go; all; ");
        }
        return calls.append("counts").toString();
    }

    /** fetch answers -1 when none is ready, and that changes nothing, either. */
    private static void fetchWithNoneReady() {
        String[][][] states = {NO_CODER, FRESH, CODING, ENDED, FLUSHED};
        for (String[][] rows : states) {
            for (String[] row : rows) {
                for (String probe : PROBES) {
                    compareOne("none ready: " + row[0], row[0] + "; all", "fetch", "-1", probe);
                }
            }
        }
    }

    private static void flushWithoutRoom() {
        for (String before : FLUSHES_THAT_DO_NOT_FIT) {
            for (String probe : PROBES) {
                compareOne("no room: " + before, before, "flush", "1", probe);
            }
            compareOne("no room: " + before, before, "flush", "1", pageProbe());
        }
    }

    /** "(Flushing a flushed one changes nothing.)" */
    private static void flushOfAFlushedOne() {
        for (String[] row : FLUSHED) {
            for (String probe : PROBES) {
                compareOne("flushed: " + row[0], row[0], "flush", "0", probe);
                compareOne("flushed, no room: " + row[0], row[0] + "; room 0", "flush", "0", probe);
            }
        }
    }
}
