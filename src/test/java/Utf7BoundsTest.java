/** The bounds that the document names for the set 5; a method for each sentence. */
public final class Utf7BoundsTest {
    private static final Due DUE = new Due();
    private static final int[] DIRECT_OTHERS = {9, 10, 13, 32, 39, 40, 41, 44, 45, 46, 47, 58, 63};

    public static void main(String[] args) {
        directOnes();
        signs();
        plainWhenOpenedOrReset();
        plusInEncoding();
        otherOnesBeginAShift();
        bitsKeptBehindEachCharacter();
        directOnesEndAShift();
        otherOnesInAShift();
        oneCharacterAStep();
        noFaultsInEncoding();
        bytesAbove127();
        plainBytesPutThemselves();
        minusWhenJustBegun();
        otherBytesWhenJustBegun();
        sixteenBitsOrMore();
        keptBitsAtAMinus();
        keptBitsAtAnotherByte();
        passingOverMakesPlain();
        endOfInput();
        DUE.end();
    }

    private static String encoded(int... units) {
        return Due.run(Due.encoder(5), false, units);
    }

    private static String decoded(String text) {
        return Due.run(Due.decoder(5), false, Due.units(text));
    }

    private static boolean isDirect(int c) {
        boolean direct = (c >= 48 && c <= 57) || (c >= 65 && c <= 90) || (c >= 97 && c <= 122);
        for (int other : DIRECT_OTHERS) {
            direct |= c == other;
        }
        return direct;
    }

    /** "DIRECT are the letters and digits (...), the codes 9, 10, 13, 32, and ..." */
    private static void directOnes() {
        int[] inside = {9, 10, 13, 32, 39, 41, 44, 47, 48, 57, 58, 63, 65, 90, 97, 122};
        for (int c : inside) {
            DUE.same("direct " + c, encoded(c), "0: " + c);
        }
        int[] outside = {8, 11, 12, 14, 31, 33, 38, 42, 59, 62, 64, 91, 96, 123, 127, 128};
        for (int c : outside) {
            DUE.same("not direct " + c, encoded(c).substring(0, 5), "0: 43");
        }
        int wrong = 0;
        for (int c = 0; c < 65536; c++) {
            ResumableCoder x = Due.encoder(5);
            x.give(c);
            x.code(false);
            wrong += x.ready() == (isDirect(c) ? 1 : c == '+' ? 2 : 3) ? 0 : 1;
        }
        DUE.same("characters that are put otherwise", wrong, 0);
    }

    /** "A .. Z 0 to 25, a .. z 26 to 51, 0 .. 9 52 to 61, + 62, / 63" */
    private static void signs() {
        int[] characters = {406, 46035, 57279};
        DUE.same("values 0 25 26 51 52 61 62 63, encoded", encoded(characters),
                "0:" + Due.codes("+AZaz09+/"));
        DUE.same("values 0 25 26 51 52 61 62 63, decoded", decoded("+AZaz09+/-"),
                "0: 406 46035 57279");
        String all = "ABCDEFGHIJKLMNOPQRSTUVWXYZabcdefghijklmnopqrstuvwxyz0123456789+/";
        for (int value = 0; value < 64; value++) {
            DUE.same("value " + value, decoded("+A" + all.charAt(value) + "A"),
                    "0: " + value * 16);
        }
        for (int b = 0; b < 128; b++) {
            if (all.indexOf(b) < 0) {
                DUE.same("no sign " + b, decoded("+AAA" + (char) b + "A"),
                        "0: 0" + (b == '-' ? "" : " " + b) + " 65");
            }
        }
    }

    /** "The coder is PLAIN or SHIFTED, plain when it is opened or reset; ... keeps some BITS." */
    private static void plainWhenOpenedOrReset() {
        for (int way = 0; way < 2; way++) {
            ResumableCoder x = Due.encoder(5);
            DUE.same("shifted", Due.run(x, true, 228), "0:" + Due.codes("+AO"));
            DUE.yes("plain again", way == 0 ? x.reset() : x.open(5, true, 0, 0));
            DUE.same("begins anew, without bits", Due.run(x, true, 228), "0:" + Due.codes("+AO"));
            DUE.yes("plain again", way == 0 ? x.reset() : x.open(5, true, 0, 0));
            DUE.same("a direct one alone", Due.run(x, true, 'a'), "0: 97");
            ResumableCoder y = Due.decoder(5);
            DUE.same("shifted", Due.run(y, true, '+', 'A', 'O'), "0:");
            DUE.yes("plain again", way == 0 ? y.reset() : y.open(5, false, 0, 0));
            DUE.same("a letter is itself", Due.run(y, true, 'Q'), "0: 81");
            DUE.same("shifted, without bits", Due.run(y, true, Due.units("+AOQ-")), "0: 228");
        }
    }

    /** "Plain: ... + (43) is put as + - (43 45)": plain afterwards; shifted it is another one. */
    private static void plusInEncoding() {
        DUE.same("plus", encoded('+', '+', 'a'), "0:" + Due.codes("+-+-a"));
        DUE.same("shifted", encoded(228, '+', 'a'), "0:" + Due.codes("+AOQAKw-a"));
        ResumableCoder x = Due.encoder(5);
        x.room(1);
        DUE.same("one is no room", Due.run(x, false, '+'), "1:");
        x.room(2);
        DUE.same("two are", Due.run(x, false), "0:" + Due.codes("+-"));
    }

    /** "another one: + is put, the coder is shifted with no bits, and ... as when it is shifted" */
    private static void otherOnesBeginAShift() {
        DUE.same("0", encoded(0), "0:" + Due.codes("+AA"));
        DUE.same("65535", encoded(65535), "0:" + Due.codes("+//"));
        DUE.same("128", encoded(128), "0:" + Due.codes("+AI"));
        ResumableCoder x = Due.encoder(5);
        x.room(2);
        DUE.same("two are no room", Due.run(x, false, 228), "1:");
        DUE.all("nothing is taken", x, "1 1 0 0 0 0");
        x.room(3);
        DUE.same("three are", Due.run(x, false), "0:" + Due.codes("+AO"));
        DUE.same("the bits are kept once", Due.run(x, true, 'a'), "0:" + Due.codes("Q-a"));
    }

    /** "for every six from the front the sign is put, and the rest (fewer than six) is kept" */
    private static void bitsKeptBehindEachCharacter() {
        String[] put = {"+AP", "8A/", "wD/", "AP", "8A/", "wD/", "AP"};
        ResumableCoder x = Due.encoder(5);
        for (int i = 0; i < put.length; i++) {
            DUE.same("255, number " + i, Due.run(x, false, 255), "0:" + Due.codes(put[i]));
        }
        String[] putOfOnes = {"+//", "///", "///", "//", "///", "///", "//"};
        ResumableCoder ones = Due.encoder(5);
        for (int i = 0; i < putOfOnes.length; i++) {
            DUE.same("65535, number " + i, Due.run(ones, false, 65535),
                    "0:" + Due.codes(putOfOnes[i]));
        }
    }

    /** "a direct one: when bits are kept, they are filled up ...; then - ..., then the character" */
    private static void directOnesEndAShift() {
        DUE.same("four bits", encoded(255, 'a'), "0:" + Due.codes("+AP8-a"));
        DUE.same("two bits", encoded(255, 255, 'a'), "0:" + Due.codes("+AP8A/w-a"));
        DUE.same("no bits", encoded(255, 255, 255, 'a'), "0:" + Due.codes("+AP8A/wD/-a"));
        DUE.same("four zeros are bits, too", encoded(0, 'a'), "0:" + Due.codes("+AAA-a"));
        DUE.same("two zeros", encoded(0, 0, 'a'), "0:" + Due.codes("+AAAAAA-a"));
        DUE.same("a minus", encoded(255, '-'), "0:" + Due.codes("+AP8--"));
        DUE.same("plain then", encoded(255, 'a', '+', 'b'), "0:" + Due.codes("+AP8-a+-b"));
        DUE.same("and no bits are left", encoded(255, 'a', 255, 'a'),
                "0:" + Due.codes("+AP8-a+AP8-a"));
        ResumableCoder x = Due.encoder(5);
        Due.run(x, false, 255, 255, 255);
        x.room(1);
        DUE.same("one is no room for minus and itself", Due.run(x, false, 'a'), "1:");
        x.room(2);
        DUE.same("two are", Due.run(x, false), "0:" + Due.codes("-a"));
        ResumableCoder y = Due.encoder(5);
        Due.run(y, false, 255);
        y.room(2);
        DUE.same("two are no room for a sign, too", Due.run(y, false, 'a'), "1:");
        DUE.all("nothing is taken", y, "1 1 0 1 3 0");
        y.room(3);
        DUE.same("three are", Due.run(y, false), "0:" + Due.codes("8-a"));
    }

    /** "Another one: its 16 bits (highest first) come behind those kept" */
    private static void otherOnesInAShift() {
        DUE.same("behind four", encoded(1, 32768), "0:" + Due.codes("+AAGAA"));
        DUE.same("behind two", encoded(1, 1, 32768), "0:" + Due.codes("+AAEAAYAA"));
        DUE.same("behind none", encoded(1, 1, 1, 32768), "0:" + Due.codes("+AAEAAQABgA"));
        ResumableCoder x = Due.encoder(5);
        Due.run(x, false, 255);
        x.room(2);
        DUE.same("two are no room for three signs", Due.run(x, false, 255), "1:");
        x.room(3);
        DUE.same("three are", Due.run(x, false), "0:" + Due.codes("8A/"));
        Due.run(x, false, 255);
        x.room(1);
        DUE.same("one is no room for two signs", Due.run(x, false, 255), "1:");
        x.room(2);
        DUE.same("two are", Due.run(x, false), "0:" + Due.codes("AP"));
    }

    /** "Encoding, one character a step": a high one waits for nothing. */
    private static void oneCharacterAStep() {
        DUE.same("high", encoded(55296), "0:" + Due.codes("+2A"));
        DUE.same("low", encoded(56320), "0:" + Due.codes("+3A"));
        ResumableCoder x = Due.encoder(5);
        x.room(3);
        DUE.same("the high one of a pair", Due.run(x, false, 55357, 56832), "1:" + Due.codes("+2D"));
        DUE.same("the low one", Due.run(x, false), "0:" + Due.codes("3eA"));
    }

    /** "there are no faults" in encoding, also in a shift and at the end. */
    private static void noFaultsInEncoding() {
        int wrong = 0;
        for (int c = 0; c < 65536; c++) {
            ResumableCoder x = Due.encoder(5);
            Due.give(x, c, c);
            wrong += x.code(true) == 0 && x.taken() == 2 && x.faults() == 0 ? 0 : 1;
        }
        DUE.same("characters that are not taken", wrong, 0);
    }

    /** "Decoding, one byte a step. 128 .. 255: BAD 1." */
    private static void bytesAbove127() {
        DUE.same("127 plain", decoded("\u007f"), "0: 127");
        for (int b = 128; b < 256; b++) {
            DUE.same(b + " plain", decoded("" + (char) b), "17:");
            DUE.same(b + " just begun", decoded("+" + (char) b), "17:");
            DUE.same(b + " in a shift", decoded("+AOQ" + (char) b), "17: 228");
        }
        DUE.same("127 in a shift", decoded("+AOQ\u007f"), "0: 228 127");
    }

    /** "Plain: + puts nothing, and the coder is shifted ...; all others put themselves." */
    private static void plainBytesPutThemselves() {
        for (int b = 0; b < 128; b++) {
            DUE.same("plain " + b, decoded("" + (char) b), b == '+' ? "0:" : "0: " + b);
        }
        ResumableCoder x = Due.decoder(5);
        x.room(0);
        DUE.same("a plus needs no room", Due.run(x, false, '+'), "0:");
        DUE.same("all others do", Due.run(x, false, '-'), "1:");
    }

    /** "- (45): when just begun, + is put; the coder is plain." */
    private static void minusWhenJustBegun() {
        DUE.same("plus", decoded("+-"), "0: 43");
        DUE.same("plain then", decoded("+-A"), "0: 43 65");
        DUE.same("again", decoded("+-+-"), "0: 43 43");
        DUE.same("no longer just begun, nothing is put", decoded("+AAA-A"), "0: 0 65");
        DUE.same("a plus is a sign in a shift", decoded("++"), "0:");
        DUE.same("no longer just begun", decoded("++-"), "17:");
    }

    /** "Another byte below 128: when just begun, ... BAD 1" */
    private static void otherBytesWhenJustBegun() {
        int[] others = {0, 9, 32, 33, '*', ',', '.', ':', '@', '[', '`', '{', 127};
        for (int b : others) {
            DUE.same(b + " just begun", decoded("+" + (char) b), "17:");
            DUE.same(b + " behind a character", decoded("+AOQ" + (char) b), "0: 228 " + b);
            DUE.same(b + " plain then", decoded("+AOQ" + (char) b + "A"), "0: 228 " + b + " 65");
        }
    }

    /** "when there are 16 or more, the first 16 are put as a character and are kept no more" */
    private static void sixteenBitsOrMore() {
        String text = "+AAEAAQAB";
        int[] readyAfter = {0, 0, 0, 1, 1, 1, 2, 2, 3};
        ResumableCoder x = Due.decoder(5);
        for (int i = 0; i < readyAfter.length; i++) {
            x.give(text.charAt(i));
            x.code(false);
            DUE.same("ready after " + (i + 1), x.ready(), readyAfter[i]);
        }
        DUE.same("all three", Due.fetched(x), " 1 1 1");
        DUE.same("none is kept", Due.run(x, false, ' '), "0: 32");
        ResumableCoder y = Due.decoder(5);
        y.room(0);
        DUE.same("two signs need no room", Due.run(y, false, '+', '/', '/'), "0:");
        DUE.same("the third does", Due.run(y, false, '8'), "1:");
        DUE.all("it waits", y, "1 1 0 3 0 0");
        y.room(1);
        DUE.same("and comes once", Due.run(y, false, '-'), "0: 65535");
    }

    /** "when it is not just begun and the bits kept are six or more, or one of them is 1" */
    private static void keptBitsAtAMinus() {
        DUE.same("no bits", decoded("+AAEAAQAB-"), "0: 1 1 1");
        DUE.same("two zeros", decoded("+AAA-"), "0: 0");
        DUE.same("four zeros", decoded("+AAEAAA-"), "0: 1 0");
        DUE.same("plain then", decoded("+AAEAAA-A"), "0: 1 0 65");
        endsThatAreBad('-');
    }

    /** "... or the bits kept are six or more or one of them is 1, BAD 1; else it is put" */
    private static void keptBitsAtAnotherByte() {
        DUE.same("no bits", decoded("+AAEAAQAB!"), "0: 1 1 1 33");
        DUE.same("two zeros", decoded("+AAA!"), "0: 0 33");
        DUE.same("four zeros", decoded("+AAEAAA!"), "0: 1 0 33");
        DUE.same("plain then", decoded("+AAEAAA!A"), "0: 1 0 33 65");
        endsThatAreBad('!');
        endsThatAreBad(' ');
    }

    private static void endsThatAreBad(char end) {
        DUE.same("the first of two, " + end, decoded("+AAC" + end), "17: 0");
        DUE.same("the second of two, " + end, decoded("+AAB" + end), "17: 0");
        DUE.same("the first of four, " + end, decoded("+AAEAAI" + end), "17: 1 0");
        DUE.same("the fourth of four, " + end, decoded("+AAEAAB" + end), "17: 1 0");
        DUE.same("six zeros, " + end, decoded("+A" + end), "17:");
        DUE.same("six zeros behind characters, " + end, decoded("+AAEAAQABA" + end), "17: 1 1 1");
        DUE.same("eight zeros, " + end, decoded("+AAAA" + end), "17: 0");
        DUE.same("ten zeros, " + end, decoded("+AAEAAAA" + end), "17: 1 0");
        DUE.same("twelve zeros, " + end, decoded("+AA" + end), "17:");
        DUE.same("fourteen zeros, " + end, decoded("+AAAAA" + end), "17: 0");
    }

    /** "Passing over a BAD makes the coder plain": by its action, and by pass. */
    private static void passingOverMakesPlain() {
        String[] bad = {"+A-", "+!", "+AOR-", "+AOQ\u0080", "+\u00ff"};
        String[] put = {"", "", " 228", " 228", ""};
        for (int i = 0; i < bad.length; i++) {
            int[] units = Due.units(bad[i] + "A");
            DUE.same("passed over " + i, Due.run(Due.opened(5, false, 1, 0), false, units),
                    "0:" + put[i] + " 65");
            DUE.same("replaced " + i, Due.run(Due.opened(5, false, 2, 0), false, units),
                    "0:" + put[i] + " 65533 65");
            ResumableCoder x = Due.decoder(5);
            DUE.same("reported " + i, Due.run(x, false, units), "17:" + put[i]);
            DUE.yes("pass " + i, x.pass());
            DUE.same("plain then " + i, Due.run(x, false), "0: 65");
        }
        ResumableCoder still = Due.decoder(5);
        DUE.same("reported", Due.run(still, false, Due.units("+AO\u0080")), "17:");
        DUE.same("again, as it was not passed over", still.code(false), 17);
        ResumableCoder full = Due.opened(5, false, 2, 0);
        full.room(0);
        DUE.same("not replaced", Due.run(full, false, Due.units("+AO!")), "1:");
        DUE.same("and so not plain", full.waiting() * 10 + full.code(false), 11);
        full.room(1);
        DUE.same("replaced then", Due.run(full, false), "0: 65533");
    }

    /** Every byte is a step or a fault of its own, so none is BAD only because the input ends. */
    private static void endOfInput() {
        String[] ends = {"+", "+A", "+AO", "+AOR"};
        for (String end : ends) {
            ResumableCoder x = Due.decoder(5);
            Due.give(x, Due.units(end));
            DUE.same(end + " at the end", x.code(true), 0);
            DUE.same(end + " waits no more", x.waiting(), 0);
            DUE.same(end + " flushed", x.flush(), 0);
            DUE.same(end + " no faults", x.faults(), 0);
        }
    }
}
