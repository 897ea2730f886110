import java.util.HashSet;
import java.util.Set;

/** The bounds that the document names for the sets 0 and 1; a method for each sentence. */
public final class Utf8BoundsTest {
    private static final Due DUE = new Due();

    public static void main(String[] args) {
        lengthsOfEncodings();
        noSurrogateIsEncoded();
        aHighOneAloneWaits();
        wholeEncodingsAreSteps();
        beginningsWait();
        beginningsAtTheEnd();
        onlyAllWaitingUnitsAreABeginning();
        firstBytes();
        secondBytes();
        furtherBytes();
        atLeastOneIsBad();
        allPairsOfBytes();
        modifiedEncodesEveryCharacter();
        modifiedZero();
        modifiedDecodesOneCharacterAStep();
        modifiedHasNoFourBytes();
        modifiedHasNoFaultsInEncoding();
        DUE.end();
    }

    private static void encodes(int set, String want, int... units) {
        DUE.same("set " + set + " encoding", Due.run(Due.encoder(set), false, units), want);
    }

    private static void decodes(int set, String want, int... units) {
        DUE.same("set " + set + " decoding", Due.run(Due.decoder(set), false, units), want);
    }

    /** "below 128, itself; below 2048, ...; below 65536, ...; else ..." */
    private static void lengthsOfEncodings() {
        encodes(0, "0: 0", 0);
        encodes(0, "0: 127", 127);
        encodes(0, "0: 194 128", 128);
        encodes(0, "0: 223 191", 2047);
        encodes(0, "0: 224 160 128", 2048);
        encodes(0, "0: 239 191 191", 65535);
        encodes(0, "0: 240 144 128 128", 55296, 56320);
        encodes(0, "0: 244 143 191 191", 56319, 57343);
        encodes(0, "0: 194 191 195 128", 191, 192);
        encodes(0, "0: 224 191 191 225 128 128", 4095, 4096);
        encodes(0, "0: 240 191 191 191 241 128 128 128", 55487, 57343, 55488, 56320);
    }

    /** "A code point 0 .. 1114111 that is no surrogate is encoded"; "Another surrogate: BAD 1." */
    private static void noSurrogateIsEncoded() {
        encodes(0, "0: 237 159 191", 55295);
        encodes(0, "0: 238 128 128", 57344);
        encodes(0, "17:", 56320);
        encodes(0, "17:", 57343);
        encodes(0, "17:", 55296, 55295);
        encodes(0, "17:", 56319, 57344);
        encodes(0, "17: 65", 65, 56320, 66);
    }

    /** "A high one that waits alone: NEED." */
    private static void aHighOneAloneWaits() {
        ResumableCoder x = Due.encoder(0);
        DUE.same("alone", Due.run(x, false, 55296), "0:");
        DUE.all("it waits", x, "1 1 0 0 0 0");
        DUE.no("it is no fault", x.pass());
        DUE.same("alone behind another", Due.run(x, false, 56320, 65, 56319), "0: 240 144 128 128 65");
        DUE.same("bad at the end", x.code(true), 17);
        DUE.yes("passed over", x.pass());
        DUE.all("none waits", x, "2 0 0 4 5 1");
    }

    /** "... when the first units are the encoding of a code point, a step takes them ..." */
    private static void wholeEncodingsAreSteps() {
        int[][] encodings = {{0}, {127}, {194, 128}, {223, 191}, {224, 160, 128}, {237, 159, 191},
            {238, 128, 128}, {239, 191, 191}, {240, 144, 128, 128}, {244, 143, 191, 191}};
        String[] characters = {" 0", " 127", " 128", " 2047", " 2048", " 55295", " 57344",
            " 65535", " 55296 56320", " 56319 57343"};
        for (int i = 0; i < encodings.length; i++) {
            decodes(0, "0:" + characters[i], encodings[i]);
            ResumableCoder x = Due.decoder(0);
            Due.give(x, encodings[i]);
            DUE.same("a fault behind is met after the step", Due.run(x, false, 255),
                    "17:" + characters[i]);
            DUE.same("units taken", x.taken(), encodings[i].length);
        }
    }

    /** "Else, when all waiting units are the beginning of an encoding, NEED." */
    private static void beginningsWait() {
        int[][] encodings = {{194, 128}, {223, 191}, {224, 160, 128}, {237, 159, 191},
            {239, 191, 191}, {240, 144, 128, 128}, {243, 191, 191, 191}, {244, 143, 191, 191}};
        for (int[] encoding : encodings) {
            ResumableCoder x = Due.decoder(0);
            for (int n = 1; n < encoding.length; n++) {
                DUE.same(encoding[0] + ", " + n + " wait", Due.run(x, false, encoding[n - 1]), "0:");
                DUE.all(encoding[0] + ", counts with " + n, x, "1 " + n + " 0 0 0 0");
                DUE.no(encoding[0] + ", no fault with " + n, x.pass());
            }
            x.give(encoding[encoding.length - 1]);
            DUE.same(encoding[0] + ", complete", x.code(false), 0);
            DUE.same(encoding[0] + ", taken", x.taken(), encoding.length);
        }
    }

    /** The same units when the input ends: "they are BAD n, n being how many wait". */
    private static void beginningsAtTheEnd() {
        int[][] encodings = {{194, 128}, {239, 191, 191}, {244, 143, 191, 191}};
        for (int[] encoding : encodings) {
            for (int n = 1; n < encoding.length; n++) {
                ResumableCoder x = Due.decoder(0);
                for (int i = 0; i < n; i++) {
                    x.give(encoding[i]);
                }
                DUE.same(encoding[0] + ", " + n + " at the end", x.code(true), 16 + n);
                DUE.yes(encoding[0] + ", pass " + n, x.pass());
                DUE.all(encoding[0] + ", counts then", x, "2 0 0 " + n + " 0 1");
            }
        }
    }

    /** "all waiting units": a beginning with another unit behind it is BAD. */
    private static void onlyAllWaitingUnitsAreABeginning() {
        decodes(0, "17:", 194, 65);
        decodes(0, "17:", 194, 194);
        decodes(0, "18:", 224, 160, 65);
        decodes(0, "19:", 240, 144, 128, 65);
        ResumableCoder x = Due.decoder(0);
        DUE.same("waits", Due.run(x, false, 240, 144, 128), "0:");
        DUE.same("bad by the unit behind", Due.run(x, false, 240), "19:");
        x.pass();
        DUE.same("that one waits", Due.run(x, false), "0:");
        DUE.same("one", x.waiting(), 1);
    }

    /** Which bytes an encoding begins with: 0 .. 127, 194 .. 223, 224 .. 239, 240 .. 244. */
    private static void firstBytes() {
        for (int b = 0; b < 256; b++) {
            boolean whole = b < 128;
            boolean begins = b >= 194 && b <= 244;
            decodes(0, whole ? "0: " + b : begins ? "0:" : "17:", b);
        }
    }

    /** The second bytes: of code points that are not too small, no surrogates, not too great. */
    private static void secondBytes() {
        int[][] bounds = {{194, 128, 191}, {195, 128, 191}, {223, 128, 191}, {224, 160, 191},
            {225, 128, 191}, {236, 128, 191}, {237, 128, 159}, {238, 128, 191}, {239, 128, 191},
            {240, 144, 191}, {241, 128, 191}, {243, 128, 191}, {244, 128, 143}};
        for (int[] bound : bounds) {
            int first = bound[0];
            DUE.same(first + ", below", second(first, bound[1] - 1), 17);
            DUE.same(first + ", least", second(first, bound[1]), 0);
            DUE.same(first + ", greatest", second(first, bound[2]), 0);
            DUE.same(first + ", above", second(first, bound[2] + 1), 17);
        }
    }

    private static int second(int first, int b) {
        ResumableCoder x = Due.decoder(0);
        Due.give(x, first, b);
        return x.code(false);
    }

    /** The third and the fourth bytes, 128 .. 191; "how many of the first units are at most". */
    private static void furtherBytes() {
        int[] bytes = {127, 128, 191, 192};
        String[] third = {"18:", "0: 4096", "0: 4159", "18:"};
        String[] thirdOfFour = {"18:", "0:", "0:", "18:"};
        String[] fourth = {"19:", "0: 55296 56320", "0: 55296 56383", "19:"};
        for (int i = 0; i < bytes.length; i++) {
            decodes(0, third[i], 225, 128, bytes[i]);
            decodes(0, thirdOfFour[i], 240, 144, bytes[i]);
            decodes(0, fourth[i], 240, 144, 128, bytes[i]);
        }
    }

    /** "Else BAD n, n being ..., but at least 1": the units behind are looked at anew. */
    private static void atLeastOneIsBad() {
        int[][] rows = {{128, 128}, {191, 191}, {192, 128}, {193, 191}, {245, 128, 128, 128},
            {255, 255}, {237, 160, 128}, {224, 159, 191}, {240, 143, 191, 191},
            {244, 144, 128, 128}};
        for (int[] row : rows) {
            ResumableCoder x = Due.decoder(0);
            Due.give(x, row);
            for (int n = 1; n <= row.length; n++) {
                DUE.same(row[0] + ", fault " + n, x.code(false), 17);
                DUE.yes(row[0] + ", pass " + n, x.pass());
            }
            DUE.all(row[0] + ", each its own fault", x,
                    "1 0 0 " + row.length + " 0 " + row.length);
        }
    }

    /** Every first and second byte, by the encodings that the document's formula makes. */
    private static void allPairsOfBytes() {
        for (int set = 0; set < 2; set++) {
            Set<Integer> beginnings = new HashSet<>();
            Set<Integer> wholes = new HashSet<>();
            for (int p = 0; p < (set == 0 ? 1114112 : 65536); p++) {
                if (set == 1 || p < 55296 || p > 57343) {
                    enter(set, p, beginnings, wholes);
                }
            }
            int wrong = 0;
            for (int i = 0; i < 65536; i++) {
                int[] two = {i / 256, i % 256};
                wrong += due(two, beginnings, wholes).equals(answers(set, two)) ? 0 : 1;
            }
            DUE.same("pairs of bytes that set " + set + " answers otherwise", wrong, 0);
        }
    }

    private static void enter(int set, int p, Set<Integer> beginnings, Set<Integer> wholes) {
        if (p < 128 && !(set == 1 && p == 0)) {
            wholes.add(p);
        } else if (p < 2048) {
            beginnings.add(192 + p / 64);
            wholes.add((192 + p / 64) * 256 + 128 + p % 64);
        } else {
            int first = p < 65536 ? 224 + p / 4096 : 240 + p / 262144;
            beginnings.add(first);
            beginnings.add(first * 256 + 128 + p / (p < 65536 ? 64 : 4096) % 64);
        }
    }

    /** The answer to two bytes, and how many wait then. */
    private static String due(int[] two, Set<Integer> beginnings, Set<Integer> wholes) {
        int both = two[0] * 256 + two[1];
        if (wholes.contains(both) && two[0] >= 192) {
            return "0 0";
        }
        if (wholes.contains(two[0])) {
            return wholes.contains(two[1]) ? "0 0" : beginnings.contains(two[1]) ? "0 1" : "17 1";
        }
        return beginnings.contains(both) && two[0] >= 192 ? "0 2" : "17 2";
    }

    private static String answers(int set, int[] two) {
        ResumableCoder x = Due.decoder(set);
        Due.give(x, two);
        return x.code(false) + " " + x.waiting();
    }

    /** "... every character alone is what is encoded (surrogates too, as three bytes) ..." */
    private static void modifiedEncodesEveryCharacter() {
        encodes(1, "0: 127 194 128", 127, 128);
        encodes(1, "0: 223 191 224 160 128", 2047, 2048);
        encodes(1, "0: 237 159 191 237 160 128", 55295, 55296);
        encodes(1, "0: 237 175 191 237 176 128", 56319, 56320);
        encodes(1, "0: 237 191 191 238 128 128", 57343, 57344);
        encodes(1, "0: 239 191 191", 65535);
        ResumableCoder x = Due.encoder(1);
        x.room(3);
        DUE.same("a high one does not wait for a low one", Due.run(x, false, 55296, 56320),
                "1: 237 160 128");
    }

    /** "... and 0 is encoded as 192 128." */
    private static void modifiedZero() {
        encodes(1, "0: 192 128 1", 0, 1);
        decodes(1, "0: 0 1", 192, 128, 1);
        decodes(1, "17:", 0);
        decodes(1, "0:", 192);
        decodes(1, "17:", 192, 127);
        decodes(1, "17:", 192, 129);
        decodes(1, "17:", 193);
        decodes(1, "17:", 193, 128);
        ResumableCoder x = Due.decoder(1);
        x.give(192);
        DUE.same("the first of its bytes at the end", x.code(true), 17);
        decodes(0, "17:", 192, 128);
        encodes(0, "0: 0", 0);
    }

    /** "Decoding puts one character a step." */
    private static void modifiedDecodesOneCharacterAStep() {
        decodes(1, "0: 55295 55296", 237, 159, 191, 237, 160, 128);
        decodes(1, "0: 57343 57344", 237, 191, 191, 238, 128, 128);
        ResumableCoder x = Due.decoder(1);
        DUE.same("a high one is complete", Due.run(x, false, 237, 175, 191), "0: 56319");
        DUE.same("so is a low one", Due.run(x, false, 237, 176, 128), "0: 56320");
        x.room(1);
        DUE.same("one fits", Due.run(x, false, 237, 160, 128, 237, 176, 128), "1: 55296");
    }

    /** "every character alone": none is greater than 65535. */
    private static void modifiedHasNoFourBytes() {
        decodes(1, "0:", 239);
        decodes(1, "0: 65535", 239, 191, 191);
        for (int b = 240; b < 256; b++) {
            decodes(1, "17:", b);
            decodes(1, "17:", b, 144, 128, 128);
        }
    }

    /** "There are no faults in encoding." */
    private static void modifiedHasNoFaultsInEncoding() {
        int wrong = 0;
        for (int c = 0; c < 65536; c++) {
            ResumableCoder x = Due.encoder(1);
            x.give(c);
            wrong += x.code(true) == 0 && x.taken() == 1 ? 0 : 1;
        }
        DUE.same("characters that are not taken", wrong, 0);
    }
}
