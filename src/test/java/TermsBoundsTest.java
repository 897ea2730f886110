/** The bounds that the document's Terms name for all sets; a method for each sentence. */
public final class TermsBoundsTest {
    private static final Due DUE = new Due();
    private static final int SETS = 7;
    private static final int[] PAIRING_SETS = {0, 2, 3, 4, 6};

    public static void main(String[] args) {
        decodersTakeBytes();
        encodersTakeCharacters();
        decodersPutCharacters();
        encodersPutBytes();
        atMost24Wait();
        roomIsGivenBackByTaking();
        readyAtMostAsTheRoomSays();
        theRoomThatSaysIsTheOneThen();
        highAndLowAsFirst();
        highAndLowBehindAHighOne();
        directlyBehind();
        codePointsOfPairs();
        nothingWaitsIsNeed();
        DUE.end();
    }

    /** "It DECODES (takes bytes 0 .. 255 ..." */
    private static void decodersTakeBytes() {
        for (int set = 0; set < SETS; set++) {
            ResumableCoder x = Due.decoder(set);
            DUE.no("set " + set + " decoding, -1", x.give(-1));
            DUE.no("set " + set + " decoding, 256", x.give(256));
            DUE.all("set " + set + " decoding, none waits", x, "0 0 0 0 0 0");
            DUE.yes("set " + set + " decoding, 0", x.give(0));
            DUE.yes("set " + set + " decoding, 255", x.give(255));
            DUE.all("set " + set + " decoding, two wait", x, "0 2 0 0 0 0");
        }
    }

    /** "... or ENCODES (takes characters ..." 0 .. 65535. */
    private static void encodersTakeCharacters() {
        for (int set = 0; set < SETS; set++) {
            ResumableCoder x = Due.encoder(set);
            DUE.no("set " + set + " encoding, -1", x.give(-1));
            DUE.no("set " + set + " encoding, 65536", x.give(65536));
            DUE.all("set " + set + " encoding, none waits", x, "0 0 0 0 0 0");
            DUE.yes("set " + set + " encoding, 0", x.give(0));
            DUE.yes("set " + set + " encoding, 65535", x.give(65535));
            DUE.all("set " + set + " encoding, two wait", x, "0 2 0 0 0 0");
        }
    }

    /** "... puts characters 0 .. 65535)": the least and the greatest of each set. */
    private static void decodersPutCharacters() {
        int[][] least = {{0}, {192, 128}, {0, 0}, {0, 0}, {0, 0}, {0}, {0}};
        int[][] greatest = {{239, 191, 191}, {239, 191, 191}, {255, 255}, {255, 255}, {255, 255},
            {'+', '/', '/', '8', '-'}, {255}};
        for (int set = 0; set < SETS; set++) {
            ResumableCoder x = new ResumableCoder();
            x.map(255, 65535);
            x.open(set, false, 0, 0);
            DUE.same("set " + set + " puts 0", Due.run(x, true, least[set]), "0: 0");
            DUE.same("set " + set + " puts 65535", Due.run(x, true, greatest[set]), "0: 65535");
        }
    }

    /** "... (takes characters, puts bytes)": the least byte of each set, and the greatest. */
    private static void encodersPutBytes() {
        String[] ofZero = {" 0", " 192 128", " 254 255 0 0", " 0 0", " 0 0",
            Due.codes("+AA"), " 0"};
        String[] ofGreatest = {" 239 191 191", " 239 191 191", " 254 255 255 255", " 255 255",
            " 255 255", Due.codes("+//"), " 255"};
        for (int set = 0; set < SETS; set++) {
            ResumableCoder x = new ResumableCoder();
            x.map(255, 65535);
            x.open(set, true, 0, 0);
            DUE.same("set " + set + " of 0", Due.run(x, true, 0), "0:" + ofZero[set]);
            x.open(set, true, 0, 0);
            DUE.same("set " + set + " of 65535", Due.run(x, true, 65535), "0:" + ofGreatest[set]);
        }
    }

    /** "Units that were given to it and not yet taken WAIT, at most 24." */
    private static void atMost24Wait() {
        for (int set = 0; set < SETS; set++) {
            for (int way = 0; way < 2; way++) {
                ResumableCoder x = Due.opened(set, way == 1, 0, 0);
                for (int i = 1; i <= 24; i++) {
                    DUE.yes("set " + set + ", unit " + i, x.give(65));
                }
                DUE.no("set " + set + ", unit 25", x.give(65));
                DUE.all("set " + set + " is full", x, "0 24 0 0 0 0");
            }
        }
    }

    /** The same sentence: units that were taken, or passed over, wait no longer. */
    private static void roomIsGivenBackByTaking() {
        ResumableCoder x = Due.decoder(0);
        Due.giveTimes(x, 24, 65);
        x.room(1);
        DUE.same("one is taken", x.code(false), 1);
        DUE.all("23 wait", x, "1 23 1 1 1 0");
        DUE.yes("the 24th again", x.give(66));
        DUE.no("the 25th again", x.give(66));
        ResumableCoder y = Due.decoder(0);
        Due.give(y, 226, 130);
        Due.giveTimes(y, 22, 65);
        DUE.same("two are bad", y.code(false), 18);
        DUE.no("they go on waiting", y.give(65));
        y.pass();
        DUE.yes("23rd", y.give(65));
        DUE.yes("24th", y.give(65));
        DUE.no("25th", y.give(65));
        DUE.all("full again", y, "1 24 0 2 0 1");
    }

    /** "... what it puts leaves at most as many ready as the ROOM says ..." */
    private static void readyAtMostAsTheRoomSays() {
        for (int room = 0; room <= 16; room++) {
            ResumableCoder x = Due.decoder(0);
            x.room(room);
            Due.giveTimes(x, room, 65);
            DUE.same("room " + room + " is enough", x.code(false), 0);
            DUE.same("room " + room + ", ready", x.ready(), room);
            x.give(66);
            DUE.same("room " + room + ", one more", x.code(false), 1);
            DUE.all("room " + room + ", counts", x,
                    "1 1 " + room + " " + room + " " + room + " 0");
        }
    }

    /** "... says then." */
    private static void theRoomThatSaysIsTheOneThen() {
        ResumableCoder x = Due.decoder(0);
        Due.giveTimes(x, 24, 65);
        x.room(5);
        x.code(false);
        DUE.same("five", x.ready(), 5);
        x.room(7);
        x.code(false);
        DUE.same("seven", x.ready(), 7);
        x.room(3);
        x.code(false);
        DUE.same("seven stay", x.ready(), 7);
        Due.give(x, 65);
        for (int ready = 6; ready >= 3; ready--) {
            x.fetch();
            DUE.same("none is put at " + ready, x.code(false) * 100 + x.ready(), 100 + ready);
        }
        x.fetch();
        DUE.same("one is put below the room", x.code(false) * 100 + x.ready(), 103);
    }

    /** "HIGH are the characters 55296 .. 56319, LOW 56320 .. 57343, SURROGATES both." */
    private static void highAndLowAsFirst() {
        for (int set : PAIRING_SETS) {
            String other = set == 6 ? "33 1" : "0 0";
            DUE.same("set " + set + ", 55295", first(set, 55295), other);
            DUE.same("set " + set + ", 55296", first(set, 55296), "0 1");
            DUE.same("set " + set + ", 56319", first(set, 56319), "0 1");
            DUE.same("set " + set + ", 56320", first(set, 56320), "17 1");
            DUE.same("set " + set + ", 57343", first(set, 57343), "17 1");
            DUE.same("set " + set + ", 57344", first(set, 57344), other);
        }
    }

    /** What an encoder answers to one character, and how many wait then. */
    private static String first(int set, int c) {
        ResumableCoder x = Due.encoder(set);
        x.give(c);
        return x.code(false) + " " + x.waiting();
    }

    /** "A high x and a low y directly behind it are a PAIR ..." */
    private static void highAndLowBehindAHighOne() {
        for (int set : PAIRING_SETS) {
            String pair = set == 6 ? "34 2" : "0 0";
            for (int high = 55296; high <= 56319; high += 1023) {
                String what = "set " + set + ", " + high + " and ";
                DUE.same(what + 56319, second(set, high, 56319), "17 2");
                DUE.same(what + 56320, second(set, high, 56320), pair);
                DUE.same(what + 57343, second(set, high, 57343), pair);
                DUE.same(what + 57344, second(set, high, 57344), "17 2");
                DUE.same(what + 65, second(set, high, 65), "17 2");
            }
            DUE.same("set " + set + ", before the high ones", second(set, 55295, 56320),
                    set == 6 ? "33 2" : "17 1");
            DUE.same("set " + set + ", behind the high ones", second(set, 56320, 56320), "17 2");
        }
    }

    private static String second(int set, int c, int d) {
        ResumableCoder x = Due.encoder(set);
        Due.give(x, c, d);
        return x.code(false) + " " + x.waiting();
    }

    /** "... directly behind it ...": not one further on, and not before it. */
    private static void directlyBehind() {
        for (int set : PAIRING_SETS) {
            ResumableCoder x = Due.encoder(set);
            Due.give(x, 55296, 65, 56320);
            DUE.same("set " + set + ", one between", x.code(false), 17);
            ResumableCoder y = Due.encoder(set);
            Due.give(y, 56320, 55296);
            DUE.same("set " + set + ", the low one first", y.code(false), 17);
            y.pass();
            DUE.same("set " + set + ", the high one waits", y.code(false), 0);
            y.give(56320);
            DUE.same("set " + set + ", given later", y.code(false), set == 6 ? 34 : 0);
            ResumableCoder z = Due.encoder(set);
            Due.give(z, 55296, 55296, 56320);
            DUE.same("set " + set + ", the first of two high ones", z.code(false), 17);
            z.pass();
            DUE.same("set " + set + ", the second pairs", z.code(false), set == 6 ? 34 : 0);
        }
    }

    /** "... and stand for the code point 65536 + (x - 55296) * 1024 + (y - 56320)." */
    private static void codePointsOfPairs() {
        int[][] pairs = {{55296, 56320}, {55296, 57343}, {55297, 56320}, {56318, 57343},
            {56319, 56320}, {56319, 57343}};
        for (int[] pair : pairs) {
            int p = 65536 + (pair[0] - 55296) * 1024 + (pair[1] - 56320);
            int[] bytes = {240 + p / 262144, 128 + p / 4096 % 64, 128 + p / 64 % 64, 128 + p % 64};
            String row = " " + bytes[0] + " " + bytes[1] + " " + bytes[2] + " " + bytes[3];
            DUE.same("encoded " + p, Due.run(Due.encoder(0), true, pair), "0:" + row);
            DUE.same("decoded " + p, Due.run(Due.decoder(0), true, bytes),
                    "0: " + pair[0] + " " + pair[1]);
        }
    }

    /** "With no units waiting it is NEED": also at the end, where none are bad. */
    private static void nothingWaitsIsNeed() {
        for (int set = 0; set < SETS; set++) {
            for (int way = 0; way < 2; way++) {
                for (int action = 0; action < 3; action++) {
                    ResumableCoder x = Due.opened(set, way == 1, action, action);
                    String what = "set " + set + (way == 1 ? " encoding" : " decoding");
                    DUE.same(what + ", nothing waits", x.code(false), 0);
                    DUE.all(what + ", nothing is put", x, "1 0 0 0 0 0");
                    DUE.no(what + ", nothing to pass", x.pass());
                    DUE.same(what + ", nothing waits at the end", x.code(true), 0);
                    DUE.all(what + ", nothing is put at the end", x, "2 0 0 0 0 0");
                    DUE.no(what + ", nothing to pass at the end", x.pass());
                }
            }
        }
    }
}
