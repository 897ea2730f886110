/** The bounds that the document names for the set 6; a method for each sentence. */
public final class PageBoundsTest {
    private static final Due DUE = new Due();

    public static void main(String[] args) {
        bytesBelow128();
        bytesFrom128();
        bytesWithoutACharacter();
        theLeastByte();
        charactersBelow128();
        unknownPairs();
        highOnesAlone();
        otherSurrogates();
        theRest();
        givenSurrogates();
        DUE.end();
    }

    /** "A byte 0 .. 127 is that character." */
    private static void bytesBelow128() {
        for (int b = 0; b < 128; b++) {
            DUE.same("byte " + b, Due.run(Due.decoder(6), false, b), "0: " + b);
            DUE.same("character " + b, Due.run(Due.encoder(6), false, b), "0: " + b);
        }
        DUE.same("byte 128", Due.run(Due.decoder(6), false, 128), "33:");
        DUE.same("character 128", Due.run(Due.encoder(6), false, 128), "33:");
    }

    /** "A byte 128 .. 255 is the character that was given to it by map." */
    private static void bytesFrom128() {
        ResumableCoder x = new ResumableCoder();
        for (int b = 128; b < 256; b++) {
            x.map(b, 1000 + b);
        }
        x.open(6, false, 0, 0);
        for (int b = 128; b < 256; b++) {
            DUE.same("byte " + b, Due.run(x, false, b), "0: " + (1000 + b));
        }
        ResumableCoder y = new ResumableCoder();
        for (int b = 128; b < 256; b++) {
            y.map(b, 1000 + b);
        }
        y.open(6, true, 0, 0);
        for (int b = 128; b < 256; b++) {
            DUE.same("character " + (1000 + b), Due.run(y, false, 1000 + b), "0: " + b);
        }
        DUE.same("character 1127", Due.run(y, false, 1127), "33:");
        y.pass();
        DUE.same("character 1256", Due.run(y, false, 1256), "33:");
    }

    /** "Decoding: a byte without a character is UNKNOWN 1." */
    private static void bytesWithoutACharacter() {
        for (int b = 128; b < 256; b++) {
            ResumableCoder x = Due.decoder(6);
            Due.give(x, b, b);
            DUE.same("byte " + b, x.code(false), 33);
            DUE.same("byte " + b + " at the end", x.code(true), 33);
            DUE.yes("pass " + b, x.pass());
            DUE.all("one is passed over", x, "2 1 0 1 0 1");
        }
        ResumableCoder x = new ResumableCoder();
        x.map(200, 0);
        x.map(201, 5);
        x.map(201, -1);
        x.open(6, false, 0, 0);
        DUE.same("0 is a character", Due.run(x, false, 200), "0: 0");
        DUE.same("taken away", Due.run(x, false, 201), "33:");
    }

    /** "Encoding: a character 0 .. 127, or one given to some byte, is put as the least such byte" */
    private static void theLeastByte() {
        ResumableCoder x = new ResumableCoder();
        x.map(255, 300);
        x.open(6, true, 0, 0);
        DUE.same("the last byte", Due.run(x, false, 300), "0: 255");
        x.map(254, 300);
        DUE.same("a lesser one", Due.run(x, false, 300), "0: 254");
        x.map(128, 300);
        DUE.same("the least", Due.run(x, false, 300), "0: 128");
        x.map(129, 300);
        DUE.same("a greater one", Due.run(x, false, 300), "0: 128");
        x.map(128, -1);
        DUE.same("without the least", Due.run(x, false, 300), "0: 129");
        x.map(129, 301);
        DUE.same("given another", Due.run(x, false, 300), "0: 254");
        x.map(254, -1);
        x.map(255, -1);
        DUE.same("without all", Due.run(x, false, 300), "33:");
    }

    /** "(one 0 .. 127 as itself)": also when a byte was given it. */
    private static void charactersBelow128() {
        ResumableCoder x = new ResumableCoder();
        x.map(128, 0);
        x.map(129, 127);
        x.map(130, 128);
        x.open(6, true, 0, 0);
        DUE.same("0, 127, 128", Due.run(x, false, 0, 127, 128), "0: 0 127 130");
        x.open(6, false, 0, 0);
        DUE.same("as the bytes' characters", Due.run(x, false, 128, 129, 130), "0: 0 127 128");
    }

    /** "Of others: a pair is UNKNOWN 2": also when the low one has a byte. */
    private static void unknownPairs() {
        int[][] pairs = {{55296, 56320}, {55296, 57343}, {56319, 56320}, {56319, 57343}};
        for (int[] pair : pairs) {
            ResumableCoder x = Due.encoder(6);
            Due.give(x, pair);
            DUE.same("a pair", x.code(false), 34);
            DUE.yes("pass", x.pass());
            DUE.all("both are passed over", x, "1 0 0 2 0 1");
            x.map(200, pair[1]);
            DUE.same("its low one has a byte", Due.run(x, true, pair), "34:");
            x.map(201, pair[0]);
            DUE.same("its high one, too", Due.run(x, true), "0: 201 200");
            x.map(200, -1);
            DUE.same("only its high one", Due.run(x, true, pair), "17: 201");
        }
    }

    /** "a high one that waits alone NEED" */
    private static void highOnesAlone() {
        for (int high = 55296; high <= 56319; high += 1023) {
            ResumableCoder x = Due.encoder(6);
            x.give(high);
            DUE.same(high + " alone", x.code(false), 0);
            DUE.all(high + " waits", x, "1 1 0 0 0 0");
            DUE.same(high + " at the end", x.code(true), 17);
            x.map(128, high);
            DUE.same(high + " has a byte then", Due.run(x, true), "0: 128");
        }
    }

    /** "another surrogate BAD 1" */
    private static void otherSurrogates() {
        DUE.same("the least low one", Due.run(Due.encoder(6), false, 56320), "17:");
        DUE.same("the greatest low one", Due.run(Due.encoder(6), false, 57343), "17:");
        DUE.same("two high ones", Due.run(Due.encoder(6), false, 55296, 56319), "17:");
        DUE.same("a high one before another", Due.run(Due.encoder(6), false, 56319, 65), "17:");
        DUE.same("by the action for bad", Due.run(Due.opened(6, true, 2, 0), false, 56320), "0: 63");
    }

    /** "the rest UNKNOWN 1" */
    private static void theRest() {
        int[] rest = {128, 255, 256, 55295, 57344, 65535};
        for (int c : rest) {
            DUE.same("character " + c, Due.run(Due.encoder(6), false, c), "33:");
            DUE.same("at the end " + c, Due.run(Due.encoder(6), true, c), "33:");
            DUE.same("by the action for unknown " + c,
                    Due.run(Due.opened(6, true, 0, 2), false, c), "0: 63");
        }
    }

    /** "(A surrogate that was given to a byte is put as that byte.)" */
    private static void givenSurrogates() {
        int[] surrogates = {55296, 56319, 56320, 57343};
        for (int c : surrogates) {
            ResumableCoder x = new ResumableCoder();
            x.map(255, c);
            x.open(6, true, 0, 0);
            DUE.same(c + " alone", Due.run(x, false, c), "0: 255");
            DUE.same(c + " before another", Due.run(x, false, c, 65), "0: 255 65");
            DUE.same(c + " at the end", Due.run(x, true, c), "0: 255");
            x.open(6, false, 0, 0);
            DUE.same(c + " decoded", Due.run(x, false, 255), "0: " + c);
        }
        ResumableCoder x = new ResumableCoder();
        x.map(255, 55296);
        x.open(6, true, 0, 0);
        DUE.same("a high one, and a low one without a byte", Due.run(x, false, 55296, 56320),
                "17: 255");
    }
}
