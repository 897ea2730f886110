/** The steps of the seven sets, by the words of the document's Terms. */
public final class SetsTest {
    private static final Due DUE = new Due();

    public static void main(String[] args) {
        utf8Encoding();
        utf8Decoding();
        utf8Faults();
        modifiedEncoding();
        modifiedDecoding();
        utf16Encoding();
        utf16Decoding();
        utf16Marks();
        utf7Encoding();
        utf7Decoding();
        utf7Faults();
        utf7Overflow();
        pageEncoding();
        pageDecoding();
        DUE.end();
    }

    private static void encodes(int set, String want, int... units) {
        DUE.same("set " + set + " encoding", Due.run(Due.encoder(set), false, units), want);
    }

    private static void decodes(int set, String want, int... units) {
        DUE.same("set " + set + " decoding", Due.run(Due.decoder(set), false, units), want);
    }

    private static void encodesText(String want, int... units) {
        encodes(5, "0:" + Due.codes(want), units);
    }

    private static void utf8Encoding() {
        encodes(0, "0: 0 127", 0, 127);
        encodes(0, "0: 194 128 223 191", 128, 2047);
        encodes(0, "0: 224 160 128 239 191 191", 2048, 65535);
        encodes(0, "0: 237 159 191 238 128 128", 55295, 57344);
        encodes(0, "0: 240 144 128 128 244 143 191 191", 55296, 56320, 56319, 57343);
        encodes(0, "0:", 55296);
        encodes(0, "0:", 56319);
        encodes(0, "17:", 56320);
        encodes(0, "17:", 57343);
        encodes(0, "17:", 55296, 65);
        encodes(0, "17:", 55296, 55296);
        encodes(0, "17: 65", 65, 55296, 65);
    }

    private static void utf8Decoding() {
        decodes(0, "0: 0 127", 0, 127);
        decodes(0, "0: 128 2047", 194, 128, 223, 191);
        decodes(0, "0: 2048 65535", 224, 160, 128, 239, 191, 191);
        decodes(0, "0: 55295 57344", 237, 159, 191, 238, 128, 128);
        decodes(0, "0: 55296 56320 56319 57343", 240, 144, 128, 128, 244, 143, 191, 191);
        decodes(0, "0: 65279", 239, 187, 191);
        decodes(0, "0: 56319 56320 55296 57343", 244, 143, 176, 128, 240, 144, 143, 191);
        int[] whole = {240, 159, 152, 128};
        for (int n = 1; n < 4; n++) {
            ResumableCoder x = Due.decoder(0);
            for (int i = 0; i < n; i++) {
                DUE.same("a piece", Due.run(x, false, whole[i]), "0:");
            }
            DUE.same("the pieces wait", x.waiting(), n);
            DUE.same("at the end they are bad", x.code(true), 16 + n);
        }
    }

    private static void utf8Faults() {
        int[] never = {128, 191, 192, 193, 245, 248, 252, 254, 255};
        for (int b : never) {
            decodes(0, "17:", b);
            decodes(0, "17:", b, 128, 128, 128);
        }
        decodes(0, "17:", 194, 65);
        decodes(0, "17:", 194, 127);
        decodes(0, "17:", 225, 127);
        decodes(0, "18:", 224, 160, 127);
        decodes(0, "18:", 224, 160, 192);
        decodes(0, "17:", 194, 192);
        decodes(0, "17:", 224, 159, 128);
        decodes(0, "17:", 237, 160, 128);
        decodes(0, "17:", 240, 143, 128, 128);
        decodes(0, "17:", 244, 144, 128, 128);
        decodes(0, "18:", 224, 160, 65);
        decodes(0, "18:", 244, 143, 65);
        decodes(0, "19:", 240, 144, 128, 65);
        decodes(0, "19:", 244, 143, 191, 192);
        ResumableCoder x = Due.opened(0, false, 2, 0);
        DUE.same("the rest is looked at again", Due.run(x, false, 237, 160, 128, 65),
                "0: 65533 65533 65533 65");
        ResumableCoder y = Due.opened(0, false, 2, 0);
        DUE.same("the longest beginning is one fault",
                Due.run(y, false, 240, 144, 128, 240, 144, 65), "0: 65533 65533 65");
    }

    private static void modifiedEncoding() {
        encodes(1, "0: 192 128 1 127", 0, 1, 127);
        encodes(1, "0: 194 128 223 191", 128, 2047);
        encodes(1, "0: 224 160 128 239 191 191", 2048, 65535);
        encodes(1, "0: 237 160 128 237 176 128", 55296, 56320);
        encodes(1, "0: 237 191 191", 57343);
        encodes(1, "0: 237 160 128", 55296);
    }

    private static void modifiedDecoding() {
        decodes(1, "0: 0 1 127", 192, 128, 1, 127);
        decodes(1, "0: 55296 56320", 237, 160, 128, 237, 176, 128);
        decodes(1, "0: 65535", 239, 191, 191);
        decodes(1, "17:", 0);
        decodes(1, "0:", 192);
        decodes(1, "17:", 192, 129);
        decodes(1, "17:", 193);
        decodes(1, "17:", 240);
        decodes(1, "17:", 244, 143, 191, 191);
        decodes(1, "17:", 224, 159);
        decodes(1, "18:", 237, 160, 65);
        ResumableCoder x = Due.decoder(1);
        x.room(1);
        DUE.same("a character a step", Due.run(x, false, 237, 160, 128, 237, 176, 128), "1: 55296");
        DUE.same("the low one", Due.run(x, false), "0: 56320");
    }

    private static void utf16Encoding() {
        encodes(3, "0: 0 65 255 255", 65, 65535);
        encodes(4, "0: 65 0 255 255", 65, 65535);
        encodes(3, "0: 216 61 222 0", 55357, 56832);
        encodes(4, "0: 61 216 0 222", 55357, 56832);
        encodes(2, "0: 254 255 216 61 222 0", 55357, 56832);
        for (int set = 3; set < 5; set++) {
            encodes(set, "0:", 55296);
            encodes(set, "17:", 56320);
            encodes(set, "17:", 55296, 65);
        }
        encodes(2, "0: 254 255", 55296);
        encodes(2, "17: 254 255", 56320);
        ResumableCoder counted = Due.encoder(2);
        Due.run(counted, false, 55357, 56832, 65, 66);
        DUE.all("the mark takes nothing", counted, "1 0 0 4 10 0");
        ResumableCoder x = Due.encoder(2);
        x.room(1);
        DUE.same("the mark needs room", Due.run(x, false, 65), "1:");
        x.room(3);
        DUE.same("the mark alone fits", Due.run(x, false), "1: 254 255");
        DUE.same("then the character", Due.run(x, false), "0: 0 65");
        ResumableCoder pair = Due.encoder(3);
        pair.room(3);
        DUE.same("four bytes are one step", Due.run(pair, false, 55357, 56832), "1:");
        DUE.same("replaced in set 2", Due.run(Due.opened(2, true, 2, 0), true, 56320),
                "0: 254 255 0 63");
        DUE.same("replaced in set 3", Due.run(Due.opened(3, true, 2, 0), true, 56320), "0: 0 63");
        DUE.same("replaced in set 4", Due.run(Due.opened(4, true, 2, 0), true, 56320), "0: 63 0");
    }

    private static void utf16Decoding() {
        for (int set = 2; set < 4; set++) {
            decodes(set, "0: 65 65535", 0, 65, 255, 255);
            decodes(set, "0:", 216);
            decodes(set, "0:", 216, 61);
            decodes(set, "0:", 216, 61, 222);
            decodes(set, "0: 55357 56832", 216, 61, 222, 0);
            decodes(set, "18:", 216, 61, 0, 65);
            decodes(set, "18:", 216, 61, 216, 61);
            decodes(set, "18:", 220, 0);
        }
        decodes(3, "0: 65279", 254, 255);
        decodes(3, "0: 65534", 255, 254);
        decodes(4, "0: 65279", 255, 254);
        decodes(4, "0: 65534", 254, 255);
        decodes(4, "0: 65", 65, 0);
        decodes(4, "0: 55357 56832", 61, 216, 0, 222);
        decodes(4, "18:", 0, 220);
        decodes(4, "18:", 61, 216, 65, 0);
        ResumableCoder counted = Due.decoder(3);
        Due.run(counted, false, 216, 61, 222, 0, 0, 65, 0);
        DUE.all("four and two taken", counted, "1 1 0 6 3 0");
        ResumableCoder x = Due.decoder(3);
        Due.give(x, 216, 61, 222);
        DUE.same("incomplete at the end", x.code(true), 19);
        ResumableCoder one = Due.decoder(3);
        one.give(0);
        DUE.same("one byte at the end", one.code(true), 17);
        ResumableCoder over = Due.decoder(3);
        over.room(1);
        DUE.same("a pair is one step", Due.run(over, false, 216, 61, 222, 0), "1:");
    }

    private static void utf16Marks() {
        decodes(2, "0: 65", 254, 255, 0, 65);
        decodes(2, "0: 65", 255, 254, 65, 0);
        decodes(2, "0: 65279", 254, 255, 254, 255);
        decodes(2, "0: 65279", 255, 254, 255, 254);
        decodes(2, "0: 65 65279", 0, 65, 254, 255);
        decodes(2, "0: 65 65534 16640", 0, 65, 255, 254, 65, 0);
        decodes(2, "0: 55357 56832", 255, 254, 61, 216, 0, 222);
        decodes(2, "18:", 255, 254, 0, 220);
        decodes(2, "0:", 255);
        decodes(2, "0: 65025", 254, 1);
        decodes(2, "0: 511", 1, 255);
        decodes(2, "0: 65281", 255, 1);
        decodes(2, "0: 510", 1, 254);
        ResumableCoder x = Due.decoder(2);
        x.room(0);
        DUE.same("a mark needs no room", Due.run(x, false, 255, 254, 65, 0), "1:");
        DUE.all("it is taken", x, "1 2 0 2 0 0");
        ResumableCoder y = Due.opened(2, false, 1, 0);
        DUE.same("no mark behind a fault", Due.run(y, false, 220, 0, 254, 255), "0: 65279");
        ResumableCoder z = Due.opened(2, false, 1, 0);
        z.give(254);
        z.code(true);
        DUE.same("no mark behind the end's fault", Due.run(z, true, 254, 255), "0: 65279");
    }

    private static void utf7Encoding() {
        String direct = "azAZ09\t\n\r '(),-./:?";
        ResumableCoder x = Due.encoder(5);
        Due.give(x, Due.units(direct));
        x.code(false);
        String got = Due.fetched(x);
        x.code(false);
        DUE.same("direct ones", got + Due.fetched(x), Due.codes(direct));
        encodesText("+-", '+');
        for (int c = 0; c < 128; c++) {
            boolean isDirect = (c >= '0' && c <= '9') || (c >= 'A' && c <= 'Z')
                    || (c >= 'a' && c <= 'z') || "\t\n\r '(),-./:?".indexOf(c) >= 0;
            ResumableCoder one = Due.encoder(5);
            one.give(c);
            one.code(false);
            DUE.same("units put for " + c, one.ready(), isDirect ? 1 : c == '+' ? 2 : 3);
        }
        encodesText("+AOQ--a", 228, '-', 'a');
        encodesText("+AOQAK", 228, '+');
        encodesText("+AOQgrCCs", 228, 8364, 8364);
        encodesText("+//8-a", 65535, 'a');
        encodesText("+2D3eAA-a", 55357, 56832, 'a');
    }

    private static void utf7Decoding() {
        decodes(5, "0: 97 43 98", 'a', '+', '-', 'b');
        decodes(5, "0:" + Due.codes("~\\!\u0000\u007f"), '~', '\\', '!', 0, 127);
        decodes(5, "0: 228 97", Due.units("+AOQ-a"));
        decodes(5, "0: 228 33", Due.units("+AOQ!"));
        decodes(5, "0: 8364 8364 8364", Due.units("+IKwgrCCs-"));
        decodes(5, "0: 64495 65", Due.units("+++8-A"));
        decodes(5, "0: 65535", Due.units("+//8-"));
        decodes(5, "0: 0", Due.units("+AAA"));
        decodes(5, "0: 45", Due.units("+AC0-"));
        decodes(5, "0:", Due.units("+AA"));
        ResumableCoder x = Due.decoder(5);
        DUE.same("kept bits at the end", Due.run(x, true, '+', 'A', 'O'), "0:");
        DUE.same("flushed", x.flush(), 0);
    }

    private static void utf7Faults() {
        decodes(5, "17:", 128);
        decodes(5, "17:", 255);
        decodes(5, "17:", '+', 128);
        decodes(5, "17:", '+', '!');
        decodes(5, "17:", '+', ' ');
        decodes(5, "17:", '+', 'A', '-');
        decodes(5, "17:", '+', 'A', ' ');
        decodes(5, "17: 228", Due.units("+AOR-"));
        decodes(5, "17: 228", Due.units("+AOR "));
        decodes(5, "17: 228", Due.units("+AOQA-"));
        decodes(5, "17: 228", Due.units("+AOQA "));
        DUE.same("a fault ends the shift", Due.run(Due.opened(5, false, 1, 0), false,
                Due.units("+A-AB")), "0: 65 66");
        DUE.same("also a byte above", Due.run(Due.opened(5, false, 2, 0), false,
                '+', 'A', 'O', 200, 'Q'), "0: 65533 81");
        ResumableCoder over = Due.opened(5, false, 2, 0);
        over.room(0);
        DUE.same("no room to replace", Due.run(over, false, '+', 'A', 'O', 200), "1:");
        DUE.same("one waits", over.waiting(), 1);
        over.open(5, false, 2, 0);
        over.room(1);
        DUE.same("full", Due.run(over, false, Due.units("+AOQA-")), "1: 228");
        DUE.same("replaced then", Due.run(over, false, 'B'), "1: 65533");
    }

    private static void utf7Overflow() {
        ResumableCoder x = Due.encoder(5);
        x.room(2);
        DUE.same("three do not fit", Due.run(x, false, 228), "1:");
        x.room(3);
        DUE.same("they do now", Due.run(x, false), "0: 43 65 79");
        x.room(2);
        DUE.same("sign, minus and itself", Due.run(x, false, 'a'), "1:");
        x.room(3);
        DUE.same("all three", Due.run(x, false), "0:" + Due.codes("Q-a"));
        ResumableCoder y = Due.decoder(5);
        y.room(0);
        DUE.same("signs need no room", Due.run(y, false, Due.units("+AOQ-")), "1:");
        DUE.same("until a character is there", y.waiting(), 2);
        y.room(1);
        DUE.same("it is put once", Due.run(y, false), "0: 228");
        Due.give(y, 'a', '+');
        y.room(1);
        y.code(false);
        y.room(0);
        Due.give(y, 'A', 'A');
        DUE.same("what puts nothing fits though more is ready", y.code(false), 0);
        y.reset();
        y.fetch();
        y.room(0);
        DUE.same("plus and minus", Due.run(y, false, '+', '-'), "1:");
        y.room(1);
        DUE.same("still just begun", Due.run(y, false), "0: 43");
    }

    private static void pageEncoding() {
        encodes(6, "0: 0 127", 0, 127);
        encodes(6, "33:", 128);
        encodes(6, "33:", 65535);
        encodes(6, "34:", 55296, 56320);
        encodes(6, "17:", 56320);
        encodes(6, "17:", 55296, 65);
        encodes(6, "0:", 55296);
        ResumableCoder x = new ResumableCoder();
        x.map(255, 56320);
        x.map(200, 55296);
        x.map(201, 65);
        x.map(128, 56321);
        x.open(6, true, 0, 0);
        DUE.same("the first byte", Due.run(x, false, 56321), "0: 128");
        DUE.same("given surrogates", Due.run(x, false, 55296, 56320, 65), "0: 200 255 65");
        DUE.same("a given high one alone", Due.run(x, false, 55296), "0: 200");
        DUE.same("a pair of another high one", Due.run(x, false, 55297, 56320), "34:");
        x.open(6, true, 2, 2);
        DUE.same("the pair is replaced once", Due.run(x, false, 55297, 56320, 300), "0: 63 63");
    }

    private static void pageDecoding() {
        ResumableCoder x = new ResumableCoder();
        for (int b = 128; b < 256; b += 2) {
            x.map(b, 1000 + b);
        }
        for (int b = 0; b < 256; b++) {
            x.open(6, false, 0, 0);
            String want = b < 128 ? "0: " + b : b % 2 == 0 ? "0: " + (1000 + b) : "33:";
            if (b < 64 || b > 120 && b < 150) {
                DUE.same("byte " + b, Due.run(x, false, b), want);
            }
        }
        ResumableCoder last = new ResumableCoder();
        last.map(255, 56320);
        last.open(6, false, 0, 0);
        DUE.same("the last byte", Due.run(last, false, 255), "0: 56320");
        DUE.same("unknown is replaced", Due.run(Due.opened(6, false, 0, 2), false, 200),
                "0: 65533");
        DUE.same("unknown is passed over", Due.run(Due.opened(6, false, 0, 1), false, 200, 65),
                "0: 65");
    }
}
