/** The bounds that the document names for the sets 2 to 4; a method for each sentence. */
public final class Utf16BoundsTest {
    private static final Due DUE = new Due();

    public static void main(String[] args) {
        orderOfTheBytes();
        charactersThatAreEncoded();
        aHighOneAloneWaits();
        noMarkWhileNothingWaits();
        markBeforeAllOthers();
        markNeedsRoom();
        markOnce();
        markAgainAfterReset();
        onlySet2PutsAMark();
        oneByteAloneWaits();
        marksAreTakenAndPutNothing();
        marksOnlyAtTheFront();
        onlyWholeMarks();
        turnedUntilOpenedOrReset();
        charactersThatAreDecoded();
        highOnesWaitForFourBytes();
        whatIsBehindAHighOne();
        incompleteAtTheEnd();
        DUE.end();
    }

    private static void encodes(int set, String want, int... units) {
        DUE.same("set " + set + " encoding", Due.run(Due.encoder(set), false, units), want);
    }

    private static void decodes(int set, String want, int... units) {
        DUE.same("set " + set + " decoding", Due.run(Due.decoder(set), false, units), want);
    }

    /** Gives two characters' bytes in the order that the set has. */
    private static int[] bytes(int set, int c, int d) {
        return set == 4 ? new int[] {c % 256, c / 256, d % 256, d / 256}
                : new int[] {c / 256, c % 256, d / 256, d % 256};
    }

    /** "Two bytes for a character, the higher eight bits first (2, 3) or last (4)." */
    private static void orderOfTheBytes() {
        encodes(2, "0: 254 255 0 255 1 0", 255, 256);
        encodes(3, "0: 0 0 0 255 1 0 255 255", 0, 255, 256, 65535);
        encodes(4, "0: 0 0 255 0 0 1 255 255", 0, 255, 256, 65535);
        decodes(2, "0: 0 255 256 65535", 0, 0, 0, 255, 1, 0, 255, 255);
        decodes(3, "0: 0 255 256 65535", 0, 0, 0, 255, 1, 0, 255, 255);
        decodes(4, "0: 0 255 256 65535", 0, 0, 255, 0, 0, 1, 255, 255);
    }

    /** "a step takes a character that is no surrogate, or a pair, and puts its two or four bytes." */
    private static void charactersThatAreEncoded() {
        encodes(3, "0: 215 255 224 0", 55295, 57344);
        encodes(3, "0: 216 0 220 0 219 255 223 255", 55296, 56320, 56319, 57343);
        encodes(4, "0: 0 216 0 220 255 219 255 223", 55296, 56320, 56319, 57343);
        for (int set = 3; set < 5; set++) {
            encodes(set, "17:", 56320);
            encodes(set, "17:", 57343);
            encodes(set, "17:", 55296, 55295);
            encodes(set, "17:", 55296, 57344);
            encodes(set, "17:", 56319, 56319);
            ResumableCoder x = Due.encoder(set);
            x.room(3);
            DUE.same("three bytes are no room for a pair", Due.run(x, false, 55296, 56320), "1:");
            DUE.all("none of it is taken", x, "1 2 0 0 0 0");
            x.room(4);
            DUE.same("four are", x.code(false), 0);
            DUE.all("both are taken", x, "1 0 4 2 4 0");
        }
    }

    /** "A high one that waits alone: NEED." */
    private static void aHighOneAloneWaits() {
        for (int set = 2; set < 5; set++) {
            ResumableCoder x = Due.encoder(set);
            int mark = set == 2 ? 2 : 0;
            x.give(55296);
            DUE.same("set " + set + ", alone", x.code(false), 0);
            DUE.all("set " + set + ", it waits", x, "1 1 " + mark + " 0 " + mark + " 0");
            DUE.same("set " + set + ", at the end", x.code(true), 17);
            x.give(57343);
            DUE.same("set " + set + ", no more alone", x.code(true), 0);
            DUE.same("set " + set + ", both are taken", x.taken(), 2);
        }
    }

    /** "... when the coder has put nothing ... and units wait, a step is made ..." */
    private static void noMarkWhileNothingWaits() {
        ResumableCoder x = Due.encoder(2);
        DUE.same("nothing waits", x.code(false), 0);
        DUE.same("nor at the end", x.code(true), 0);
        DUE.same("nor for flush", x.flush(), 0);
        DUE.all("nothing is put", x, "3 0 0 0 0 0");
        x.reset();
        DUE.same("one waits", Due.run(x, false, 65), "0: 254 255 0 65");
    }

    /** "... is made before all others that takes nothing and puts 254 255." */
    private static void markBeforeAllOthers() {
        encodes(2, "0: 254 255", 55296);
        encodes(2, "17: 254 255", 56320);
        encodes(2, "17: 254 255", 55296, 65);
        for (int action = 1; action < 3; action++) {
            ResumableCoder x = Due.opened(2, true, action, 0);
            DUE.same("before a fault, action " + action, Due.run(x, true, 56320, 65),
                    "0: 254 255" + (action == 2 ? " 0 63" : "") + " 0 65");
        }
        ResumableCoder x = Due.encoder(2);
        x.room(2);
        x.give(65);
        DUE.same("the mark alone", x.code(false), 1);
        DUE.all("it takes nothing", x, "1 1 2 0 2 0");
    }

    /** The mark "would make more units ready than the room says: OVERFLOW". */
    private static void markNeedsRoom() {
        ResumableCoder x = Due.encoder(2);
        x.give(56320);
        for (int room = 0; room < 2; room++) {
            x.room(room);
            DUE.same("room " + room, x.code(false), 1);
            DUE.all("room " + room + ", nothing is put", x, "1 1 0 0 0 0");
        }
        x.room(2);
        DUE.same("room 2", Due.run(x, false), "17: 254 255");
        DUE.yes("the fault behind it", x.pass());
        DUE.same("no second one", Due.run(x, false, 65), "0: 0 65");
    }

    /** "when the coder has put nothing": afterwards there is no mark, also when all is fetched. */
    private static void markOnce() {
        ResumableCoder x = Due.encoder(2);
        DUE.same("the mark", Due.run(x, false, 55296), "0: 254 255");
        DUE.same("the pair behind it", Due.run(x, false, 56320), "0: 216 0 220 0");
        DUE.same("at the end", Due.run(x, true, 65), "0: 0 65");
        ResumableCoder y = Due.opened(2, true, 1, 0);
        DUE.same("all passed over", Due.run(y, false, 56320, 56320), "0: 254 255");
        DUE.same("the mark stands", Due.run(y, false, 65), "0: 0 65");
    }

    /** "since it was opened or reset" */
    private static void markAgainAfterReset() {
        ResumableCoder x = Due.encoder(2);
        Due.give(x, 65, 66);
        x.room(4);
        DUE.same("one character", Due.run(x, false), "1: 254 255 0 65");
        x.reset();
        DUE.same("again for those that wait", Due.run(x, false), "0: 254 255 0 66");
        x.open(2, true, 0, 0);
        DUE.same("again when opened", Due.run(x, false, 67), "0: 254 255 0 67");
        x.reset();
        x.reset();
        DUE.same("reset twice", Due.run(x, false, 68), "0: 254 255 0 68");
    }

    private static void onlySet2PutsAMark() {
        encodes(3, "0: 0 65", 65);
        encodes(4, "0: 65 0", 65);
        encodes(3, "0: 254 255", 65279);
        encodes(2, "0: 254 255 254 255", 65279);
    }

    /** "Decoding: one byte alone: NEED." */
    private static void oneByteAloneWaits() {
        int[] bytes = {0, 65, 216, 220, 254, 255};
        for (int set = 2; set < 5; set++) {
            for (int b : bytes) {
                ResumableCoder x = Due.decoder(set);
                x.give(b);
                DUE.same("set " + set + ", " + b + " alone", x.code(false), 0);
                DUE.all("set " + set + ", " + b + " waits", x, "1 1 0 0 0 0");
                DUE.same("set " + set + ", " + b + " at the end", x.code(true), 17);
            }
        }
    }

    /** "a step takes them and puts nothing", also when the room is full. */
    private static void marksAreTakenAndPutNothing() {
        ResumableCoder x = Due.decoder(2);
        x.room(0);
        DUE.same("254 255", Due.run(x, false, 254, 255), "0:");
        DUE.all("254 255 are taken", x, "1 0 0 2 0 0");
        ResumableCoder y = Due.decoder(2);
        y.room(0);
        DUE.same("255 254", Due.run(y, false, 255, 254), "0:");
        DUE.all("255 254 are taken", y, "1 0 0 2 0 0");
        ResumableCoder pieces = Due.decoder(2);
        DUE.same("one piece", Due.run(pieces, false, 255), "0:");
        DUE.same("the other", Due.run(pieces, false, 254), "0:");
        DUE.same("it counts", Due.run(pieces, false, 65, 0), "0: 65");
    }

    /** "when the coder has taken nothing since it was opened or reset" */
    private static void marksOnlyAtTheFront() {
        decodes(2, "0: 65279", 254, 255, 254, 255);
        decodes(2, "0: 65534", 254, 255, 255, 254);
        decodes(2, "0: 65534", 255, 254, 254, 255);
        decodes(2, "0: 65 65279 65534", 0, 65, 254, 255, 255, 254);
        ResumableCoder fault = Due.opened(2, false, 1, 0);
        DUE.same("passed over is taken", Due.run(fault, false, 220, 0, 255, 254), "0: 65534");
        ResumableCoder replaced = Due.opened(2, false, 2, 0);
        DUE.same("replaced is taken", Due.run(replaced, false, 220, 0, 255, 254),
                "0: 65533 65534");
        ResumableCoder passed = Due.decoder(2);
        Due.give(passed, 220, 0, 255, 254);
        DUE.same("the fault", passed.code(false), 18);
        passed.pass();
        DUE.same("by pass, too", Due.run(passed, false), "0: 65534");
        ResumableCoder reset = Due.decoder(2);
        Due.run(reset, false, 0, 65);
        reset.give(255);
        reset.reset();
        DUE.same("a byte that waited over reset", Due.run(reset, false, 254, 65, 0), "0: 65");
        ResumableCoder unput = Due.decoder(2);
        unput.room(0);
        Due.give(unput, 0, 65);
        DUE.same("not taken, it does not fit", unput.code(false), 1);
        unput.room(1);
        DUE.same("taken", Due.run(unput, false, 254, 255), "1: 65");
    }

    /** "the first two bytes are 254 255 ...; when they are 255 254": no others near them. */
    private static void onlyWholeMarks() {
        int[][] near = {{253, 255}, {254, 254}, {255, 253}, {255, 255}, {254, 0}, {0, 254}};
        for (int[] two : near) {
            decodes(2, "0: " + (two[0] * 256 + two[1]), two);
        }
        decodes(3, "0: 65279 65534", 254, 255, 255, 254);
        decodes(4, "0: 65534 65279", 254, 255, 255, 254);
    }

    /** "from then on, until it is opened or reset, the higher eight bits come last" */
    private static void turnedUntilOpenedOrReset() {
        ResumableCoder x = Due.decoder(2);
        DUE.same("turned", Due.run(x, false, 255, 254, 65, 0), "0: 65");
        DUE.same("from then on", Due.run(x, false, 66, 0, 61, 216, 0, 222), "0: 66 55357 56832");
        DUE.same("with low ones alone", Due.run(x, false, 0, 220), "18:");
        x.pass();
        DUE.same("behind a fault", Due.run(x, true, 67, 0), "0: 67");
        x.reset();
        DUE.same("until reset", Due.run(x, false, 0, 65), "0: 65");
        x.reset();
        DUE.same("turned again", Due.run(x, false, 255, 254, 65, 0), "0: 65");
        x.reset();
        DUE.same("the other mark", Due.run(x, false, 254, 255, 0, 65), "0: 65");
        x.reset();
        Due.run(x, false, 255, 254);
        x.open(2, false, 0, 0);
        DUE.same("until opened", Due.run(x, false, 0, 65), "0: 65");
        Due.run(x, false, 255, 254);
        x.open(2, true, 0, 0);
        DUE.same("no matter for encoding", Due.run(x, false, 65), "0: 254 255 0 65");
        x.open(2, false, 0, 0);
        Due.run(x, false, 255, 254);
        x.open(3, false, 0, 0);
        DUE.same("nor for set 3", Due.run(x, false, 0, 65), "0: 65");
    }

    /** "two bytes whose character x is no surrogate are taken and x is put. A low x: BAD 2." */
    private static void charactersThatAreDecoded() {
        for (int set = 2; set < 5; set++) {
            decodes(set, "0: 0 55295", bytes(set, 0, 55295));
            decodes(set, "0: 57344 65535", bytes(set, 57344, 65535));
            decodes(set, "18:", bytes(set, 56320, 65));
            decodes(set, "18:", bytes(set, 57343, 65));
            ResumableCoder x = Due.decoder(set);
            int[] low = bytes(set, 56320, 65);
            Due.give(x, low[0], low[1]);
            DUE.same("set " + set + ", a low one at once", x.code(false), 18);
            DUE.yes("set " + set + ", pass", x.pass());
            DUE.all("set " + set + ", two are passed over", x, "1 0 0 2 0 1");
        }
    }

    /** "A high x: with less than four bytes waiting NEED" */
    private static void highOnesWaitForFourBytes() {
        for (int set = 2; set < 5; set++) {
            for (int high = 55296; high <= 56319; high += 1023) {
                int[] bytes = bytes(set, high, 57343);
                ResumableCoder x = Due.decoder(set);
                for (int n = 1; n < 4; n++) {
                    DUE.same("set " + set + ", " + n + " bytes",
                            Due.run(x, false, bytes[n - 1]), "0:");
                    DUE.all("set " + set + ", " + n + " wait", x, "1 " + n + " 0 0 0 0");
                }
                DUE.same("set " + set + ", four bytes", Due.run(x, false, bytes[3]),
                        "0: " + high + " 57343");
                DUE.all("set " + set + ", four are taken", x, "1 0 0 4 2 0");
            }
        }
    }

    /** "when the next two bytes are a low one, a step takes four ...; otherwise BAD 2." */
    private static void whatIsBehindAHighOne() {
        int[] behind = {56319, 56320, 57343, 57344, 65, 55296};
        for (int set = 2; set < 5; set++) {
            for (int c : behind) {
                boolean low = c == 56320 || c == 57343;
                decodes(set, low ? "0: 55296 " + c : "18:", bytes(set, 55296, c));
                decodes(set, low ? "0: 56319 " + c : "18:", bytes(set, 56319, c));
            }
            ResumableCoder x = Due.decoder(set);
            Due.give(x, bytes(set, 55296, 65));
            x.code(false);
            DUE.yes("set " + set + ", pass", x.pass());
            DUE.same("set " + set + ", what is behind stays", Due.run(x, false), "0: 65");
            DUE.all("set " + set + ", counts", x, "1 0 0 4 1 1");
        }
    }

    /** "... the input ends and units wait: they are BAD n, n being how many wait." */
    private static void incompleteAtTheEnd() {
        for (int set = 2; set < 5; set++) {
            int[] bytes = bytes(set, 55296, 56320);
            for (int n = 1; n < 4; n++) {
                ResumableCoder x = Due.decoder(set);
                for (int i = 0; i < n; i++) {
                    x.give(bytes[i]);
                }
                DUE.same("set " + set + ", " + n + " at the end", x.code(true), 16 + n);
                DUE.yes("set " + set + ", pass " + n, x.pass());
                DUE.all("set " + set + ", counts", x, "2 0 0 " + n + " 0 1");
            }
        }
    }
}
