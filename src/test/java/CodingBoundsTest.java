import java.util.Arrays;

/** The bounds that the document's CODING names; a method for each sentence. */
public final class CodingBoundsTest {
    private static final Due DUE = new Due();
    private static final int SETS = 7;
    private static final int REPORT = 0;
    private static final int PASS_OVER = 1;
    private static final int REPLACE = 2;

    public static void main(String[] args) {
        freshWhenOpened();
        emptyCoders();
        stepsThatDoNotFit();
        stepsBehindOthersThatAreReady();
        stepsThatPutNoneAreAlwaysMade();
        needIsUnderflow();
        needBehindOtherMoves();
        needAtTheEndIsBad();
        needAtTheEndWithoutUnits();
        reportedBad();
        reportedUnknown();
        reportedUnitsGoOnWaiting();
        passedOver();
        replacementsOfDecoders();
        replacementsOfEncoders();
        replacementsThatDoNotFit();
        replacedAtTheEnd();
        fullOfFaults();
        fullOfSteps();
        eachKindItsAction();
        DUE.end();
    }

    /** "A coder is FRESH (0), ...; fresh when it is opened." */
    private static void freshWhenOpened() {
        for (int set = 0; set < SETS; set++) {
            ResumableCoder x = Due.decoder(set);
            DUE.same("opened", x.state(), 0);
            x.code(false);
            x.open(set, true, REPORT, REPORT);
            DUE.same("opened when coding", x.state(), 0);
            x.code(true);
            x.open(set, false, REPORT, REPORT);
            DUE.same("opened when ended", x.state(), 0);
            x.code(true);
            x.flush();
            x.open(set, true, REPORT, REPORT);
            DUE.same("opened when flushed", x.state(), 0);
        }
    }

    /** code at an empty coder, in each state that it may be called in, and without room. */
    private static void emptyCoders() {
        for (int set = 0; set < SETS; set++) {
            ResumableCoder x = Due.opened(set, set % 2 == 0, REPLACE, REPLACE);
            x.room(0);
            DUE.same("fresh " + set, x.code(false), 0);
            DUE.same("coding " + set, x.code(false), 0);
            DUE.same("to its end " + set, x.code(true), 0);
            DUE.same("ended " + set, x.code(true), 0);
            DUE.all("nothing came " + set, x, "2 0 0 0 0 0");
            x.reset();
            DUE.same("fresh to its end " + set, x.code(true), 0);
            DUE.all("still nothing " + set, x, "2 0 0 0 0 0");
        }
    }

    /** "a step that puts some units would make more units ready than the room says: OVERFLOW" */
    private static void stepsThatDoNotFit() {
        fits(Due.decoder(0), 1, 65);
        fits(Due.decoder(0), 2, 240, 159, 152, 128);
        fits(Due.decoder(1), 1, 237, 160, 128);
        fits(Due.decoder(3), 1, 0, 65);
        fits(Due.decoder(4), 2, 61, 216, 0, 222);
        fits(Due.decoder(5), 1, 65);
        fits(Due.decoder(6), 1, 65);
        fits(Due.encoder(0), 1, 127);
        fits(Due.encoder(0), 2, 128);
        fits(Due.encoder(0), 3, 2048);
        fits(Due.encoder(0), 4, 55296, 56320);
        fits(Due.encoder(1), 2, 0);
        fits(Due.encoder(1), 3, 65535);
        fits(Due.encoder(3), 2, 65);
        fits(Due.encoder(4), 4, 55296, 56320);
        fits(Due.encoder(5), 1, 65);
        fits(Due.encoder(5), 2, 43);
        fits(Due.encoder(5), 3, 33);
        fits(Due.encoder(6), 1, 65);
    }

    /** One step that puts so many: it is made where they fit, and not where one does not. */
    private static void fits(ResumableCoder x, int puts, int... units) {
        Due.give(x, units);
        for (int room = 0; room < puts; room++) {
            x.room(room);
            DUE.same(puts + " in room " + room, x.code(false), 1);
            DUE.all("that step is not made", x, "1 " + units.length + " 0 0 0 0");
        }
        x.room(puts);
        DUE.same(puts + " in room " + puts, x.code(false), 0);
        DUE.all("it is made", x, "1 0 " + puts + " " + units.length + " " + puts + " 0");
    }

    /** "would make more units ready": those that are ready already count. */
    private static void stepsBehindOthersThatAreReady() {
        ResumableCoder x = Due.encoder(0);
        Due.giveTimes(x, 5, 8364);
        DUE.same("five of three in sixteen", x.code(false), 0);
        DUE.same("fifteen", x.ready(), 15);
        x.give(228);
        DUE.same("two in the one that is left", x.code(false), 1);
        x.fetch();
        DUE.same("two in two", x.code(false), 0);
        DUE.all("sixteen are ready", x, "1 0 16 6 17 0");
        x.give(65);
        DUE.same("one when it is full", x.code(false), 1);
        x.fetch();
        DUE.same("one in one", x.code(false), 0);
        DUE.all("full again", x, "1 0 16 7 18 0");
    }

    /** "that step is not made (a step that puts none always is)": also with more ready. */
    private static void stepsThatPutNoneAreAlwaysMade() {
        ResumableCoder mark = Due.decoder(2);
        mark.room(0);
        DUE.same("a mark", Due.run(mark, false, 254, 255, 0), "0:");
        DUE.all("a mark is taken", mark, "1 1 0 2 0 0");
        ResumableCoder shift = Due.decoder(5);
        Due.give(shift, Due.units("abc+AAA"));
        shift.room(4);
        shift.code(false);
        DUE.same("four are ready", shift.ready(), 4);
        for (int room = 4; room >= 0; room -= 4) {
            shift.room(room);
            Due.give(shift, Due.units("-+AA"));
            DUE.same("minus, plus and signs in room " + room, shift.code(false), 0);
            DUE.same("nothing waits", shift.waiting(), 0);
            Due.give(shift, 'A');
            DUE.same("a sign with a character does not fit", shift.code(false), 1);
            shift.room(shift.ready() + 1);
            DUE.same("with room", shift.code(false), 0);
        }
    }

    /** "NEED: UNDERFLOW (0)": what is not complete waits, and is taken when it is. */
    private static void needIsUnderflow() {
        ResumableCoder x = Due.decoder(0);
        DUE.same("not complete", Due.run(x, false, 65, 226, 130), "0: 65");
        DUE.same("nothing new", x.code(false), 0);
        DUE.all("two wait", x, "1 2 0 1 1 0");
        x.room(0);
        DUE.same("no overflow, as no step is there", x.code(false), 0);
        x.room(1);
        DUE.same("complete", Due.run(x, false, 172), "0: 8364");
    }

    /** The same for each beginning that a set has, behind a step and a fault of the same call. */
    private static void needBehindOtherMoves() {
        int[][] beginnings = {{194}, {224}, {224, 160}, {240}, {240, 144}, {240, 144, 128}};
        for (int[] beginning : beginnings) {
            needBehind(0, false, new int[] {65, 255}, beginning);
        }
        needBehind(1, false, new int[] {65, 255}, new int[] {192});
        for (int set = 2; set < 5; set++) {
            int[] before = set == 4 ? new int[] {65, 0, 0, 220} : new int[] {0, 65, 220, 0};
            int[] pair = set == 4 ? new int[] {0, 216, 0, 220} : new int[] {216, 0, 220, 0};
            for (int n = 1; n < 4; n++) {
                needBehind(set, false, before, Arrays.copyOf(pair, n));
            }
        }
        int[] pairing = {0, 2, 3, 4, 6};
        for (int set : pairing) {
            needBehind(set, true, new int[] {65, 56320}, new int[] {55296});
            needBehind(set, true, new int[] {65, 56320}, new int[] {56319});
        }
    }

    /** The units before are a step and then a fault. */
    private static void needBehind(int set, boolean encode, int[] before, int[] beginning) {
        String what = "set " + set + (encode ? " encoding" : " decoding");
        int n = beginning.length;
        ResumableCoder x = Due.opened(set, encode, PASS_OVER, REPORT);
        Due.give(x, Arrays.copyOf(before, before.length / 2));
        Due.give(x, beginning);
        DUE.same(what + ", behind a step", x.code(false), 0);
        DUE.same(what + ", waits", x.waiting(), n);
        x.open(set, encode, PASS_OVER, REPORT);
        Due.give(x, before);
        Due.give(x, beginning);
        DUE.same(what + ", behind a fault", x.code(false), 0);
        DUE.same(what + ", waits", x.waiting(), n);
        DUE.same(what + ", taken", x.taken(), before.length);
        x.open(set, encode, REPORT, REPORT);
        Due.give(x, Arrays.copyOf(before, before.length / 2));
        Due.give(x, beginning);
        DUE.same(what + ", at the end behind a step", x.code(true), 16 + n);
        DUE.same(what + ", goes on waiting", x.waiting(), n);
    }

    /** "when the call said that the input ends and units wait: they are BAD n" */
    private static void needAtTheEndIsBad() {
        DUE.same("one byte", Due.run(Due.decoder(0), true, 194), "17:");
        DUE.same("two bytes", Due.run(Due.decoder(0), true, 224, 160), "18:");
        DUE.same("three bytes", Due.run(Due.decoder(0), true, 240, 144, 128), "19:");
        DUE.same("behind a step", Due.run(Due.decoder(0), true, 65, 240, 144, 128), "19: 65");
        DUE.same("a high one", Due.run(Due.encoder(0), true, 65, 55296), "17: 65");
        DUE.same("set 6", Due.run(Due.encoder(6), true, 55296), "17:");
        ResumableCoder x = Due.decoder(0);
        Due.give(x, 224, 160);
        DUE.same("the end is not said", x.code(false), 0);
        DUE.same("the end is said", x.code(true), 18);
        x.reset();
        DUE.same("reset, it is not said", x.code(false), 0);
        DUE.same("a fault for its length alone", Due.run(Due.decoder(0), true, 224, 160, 65), "18:");
    }

    /** "... and units wait": without any it is UNDERFLOW, also when the room is full. */
    private static void needAtTheEndWithoutUnits() {
        ResumableCoder x = Due.opened(0, false, REPLACE, REPLACE);
        x.room(1);
        Due.give(x, 65);
        DUE.same("all is taken", x.code(true), 0);
        DUE.same("nothing waits", x.code(true), 0);
        DUE.all("nothing is replaced", x, "2 0 1 1 1 0");
    }

    /** "if the ACTION for its kind is 0 (report): 16 + n for BAD n" */
    private static void reportedBad() {
        DUE.same("1", Due.run(Due.decoder(0), false, 255), "17:");
        DUE.same("2", Due.run(Due.decoder(0), false, 224, 160, 255), "18:");
        DUE.same("3", Due.run(Due.decoder(0), false, 240, 144, 128, 255), "19:");
        DUE.same("2 of set 3", Due.run(Due.decoder(3), false, 220, 0), "18:");
        DUE.same("3 of set 3", Due.run(Due.decoder(3), true, 216, 0, 220), "19:");
        DUE.same("1 of set 5", Due.run(Due.decoder(5), false, 128), "17:");
        DUE.same("1 of set 6", Due.run(Due.encoder(6), false, 56320), "17:");
    }

    /** "32 + n for UNKNOWN n" */
    private static void reportedUnknown() {
        DUE.same("1 decoding", Due.run(Due.decoder(6), false, 128), "33:");
        DUE.same("1 encoding", Due.run(Due.encoder(6), false, 128), "33:");
        DUE.same("2 encoding", Due.run(Due.encoder(6), false, 55296, 56320), "34:");
    }

    /** "and the units go on waiting" */
    private static void reportedUnitsGoOnWaiting() {
        ResumableCoder x = Due.decoder(0);
        DUE.same("reported", Due.run(x, false, 65, 224, 160, 255), "18: 65");
        DUE.all("they wait", x, "1 3 0 1 1 0");
        DUE.same("reported again", x.code(false), 18);
        DUE.same("and at the end", x.code(true), 18);
        DUE.all("they still wait", x, "2 3 0 1 1 0");
        x.room(0);
        DUE.same("without room", x.code(true), 18);
    }

    /** "With the action 1 (pass over) the n units are PASSED OVER: taken, and the coder goes on." */
    private static void passedOver() {
        ResumableCoder x = Due.opened(0, false, PASS_OVER, REPORT);
        x.room(1);
        DUE.same("one, two and three bytes", Due.run(x, false, 255, 224, 160, 240, 144, 128, 65),
                "0: 65");
        DUE.all("seven taken, three faults", x, "1 0 0 7 1 3");
        x.room(0);
        DUE.same("no room is needed", Due.run(x, true, 255, 226, 130), "0:");
        DUE.all("ten taken, five faults", x, "2 0 0 10 1 5");
        ResumableCoder y = Due.opened(6, true, REPORT, PASS_OVER);
        DUE.same("unknown", Due.run(y, false, 300, 55296, 56320, 65), "0: 65");
        DUE.all("four taken, two faults", y, "1 0 0 4 1 2");
    }

    /** "The replacement is the character 65533 in decoding": one, also for more units. */
    private static void replacementsOfDecoders() {
        int[][] bad = {{240, 144, 128, 255}, {237, 160, 240}, {220, 0}, {220, 0}, {0, 220},
            {'+', 'A', '-'}, {200}};
        String[] put = {" 65533 65533", " 65533 65533", " 65533", " 65533", " 65533", " 65533",
            " 65533"};
        int[] faults = {2, 2, 1, 1, 1, 1, 1};
        for (int set = 0; set < SETS; set++) {
            ResumableCoder x = Due.opened(set, false, REPLACE, REPLACE);
            DUE.same("decoding set " + set, Due.run(x, true, bad[set]), "0:" + put[set]);
            DUE.all("decoding set " + set, x, "2 0 0 " + bad[set].length + " " + faults[set]
                    + " " + faults[set]);
        }
    }

    /** "and the character 63 in encoding, as bytes 63 or, for the sets 2 to 4, its two bytes" */
    private static void replacementsOfEncoders() {
        int[] sets = {0, 2, 3, 4, 6};
        String[] put = {" 63", " 254 255 0 63", " 0 63", " 63 0", " 63"};
        int[] puts = {1, 4, 2, 2, 1};
        for (int i = 0; i < sets.length; i++) {
            ResumableCoder x = Due.opened(sets[i], true, REPLACE, REPLACE);
            DUE.same("encoding set " + sets[i], Due.run(x, false, 56320), "0:" + put[i]);
            DUE.all("encoding set " + sets[i], x, "1 0 0 1 " + puts[i] + " 1");
        }
        ResumableCoder pair = Due.opened(6, true, REPLACE, REPLACE);
        DUE.same("a pair is replaced once", Due.run(pair, false, 55296, 56320, 300), "0: 63 63");
        DUE.all("two faults of three", pair, "1 0 0 3 2 2");
        ResumableCoder mapped = new ResumableCoder();
        mapped.map(128, 63);
        mapped.open(6, true, REPLACE, REPLACE);
        DUE.same("63 is itself", Due.run(mapped, false, 300), "0: 63");
    }

    /** "or, when it would make more units ready than the room says, the answer is OVERFLOW" */
    private static void replacementsThatDoNotFit() {
        replacementFits(Due.opened(0, false, REPLACE, REPORT), 1, 255);
        replacementFits(Due.opened(3, false, REPLACE, REPORT), 1, 220, 0);
        replacementFits(Due.opened(5, false, REPLACE, REPORT), 1, 128);
        replacementFits(Due.opened(6, false, REPORT, REPLACE), 1, 128);
        replacementFits(Due.opened(0, true, REPLACE, REPORT), 1, 56320);
        replacementFits(Due.opened(3, true, REPLACE, REPORT), 2, 56320);
        replacementFits(Due.opened(4, true, REPLACE, REPORT), 2, 56320);
        replacementFits(Due.opened(6, true, REPORT, REPLACE), 1, 55296, 56320);
        ResumableCoder x = Due.opened(2, true, REPLACE, REPORT);
        x.give(56320);
        x.room(3);
        DUE.same("behind the mark", x.code(false), 1);
        DUE.all("behind the mark nothing", x, "1 1 2 0 2 0");
        x.room(4);
        DUE.same("behind the mark, with room", x.code(false), 0);
        DUE.all("behind the mark two", x, "1 0 4 1 4 1");
    }

    private static void replacementFits(ResumableCoder x, int puts, int... units) {
        Due.give(x, units);
        for (int room = 0; room < puts; room++) {
            x.room(room);
            DUE.same("replacement in room " + room, x.code(false), 1);
            DUE.all("nothing is replaced", x, "1 " + units.length + " 0 0 0 0");
            DUE.no("and there is nothing to pass", x.pass());
        }
        x.room(puts);
        DUE.same("replacement in room " + puts, x.code(false), 0);
        DUE.all("it is replaced", x, "1 0 " + puts + " " + units.length + " " + puts + " 1");
    }

    /** What is BAD because the input ends has its action, too. */
    private static void replacedAtTheEnd() {
        ResumableCoder x = Due.opened(0, false, REPLACE, REPORT);
        Due.give(x, 240, 144, 128);
        x.room(0);
        DUE.same("no room", x.code(true), 1);
        DUE.all("they wait", x, "2 3 0 0 0 0");
        x.room(1);
        DUE.same("one for three", Due.run(x, true), "0: 65533");
        DUE.all("one fault", x, "2 0 0 3 1 1");
        ResumableCoder y = Due.opened(4, true, REPLACE, REPORT);
        y.give(55296);
        y.room(1);
        DUE.same("one is no room for two", y.code(true), 1);
        y.room(2);
        DUE.same("two bytes", Due.run(y, true), "0: 63 0");
        ResumableCoder z = Due.opened(6, true, PASS_OVER, REPORT);
        DUE.same("passed over by the action for bad", Due.run(z, true, 55296), "0:");
        DUE.all("one fault", z, "2 0 0 1 0 1");
    }

    /** 24 faults in one call, and 16 replacements of 24. */
    private static void fullOfFaults() {
        ResumableCoder over = Due.opened(0, false, PASS_OVER, REPORT);
        Due.giveTimes(over, 24, 255);
        DUE.same("all passed over", over.code(false), 0);
        DUE.all("24 faults", over, "1 0 0 24 0 24");
        ResumableCoder mark = Due.opened(2, true, PASS_OVER, REPORT);
        Due.giveTimes(mark, 24, 56320);
        DUE.same("a mark and 24 faults", mark.code(true), 0);
        DUE.all("24 faults behind a mark", mark, "2 0 2 24 2 24");
        ResumableCoder replaced = Due.opened(0, false, REPLACE, REPORT);
        Due.giveTimes(replaced, 24, 255);
        DUE.same("sixteen fit", replaced.code(false), 1);
        DUE.all("16 faults", replaced, "1 8 16 16 16 16");
        Due.fetched(replaced);
        DUE.same("the rest", replaced.code(false), 0);
        DUE.all("24 replaced", replaced, "1 0 8 24 24 24");
        ResumableCoder reported = Due.decoder(0);
        Due.giveTimes(reported, 24, 255);
        for (int i = 1; i <= 24; i++) {
            DUE.same("fault " + i, reported.code(false), 17);
            DUE.yes("pass " + i, reported.pass());
        }
        DUE.same("no 25th", reported.code(false), 0);
        DUE.all("24 by pass", reported, "1 0 0 24 0 24");
    }

    /** 24 units, taken in one call when their steps put at most sixteen. */
    private static void fullOfSteps() {
        ResumableCoder x = Due.decoder(5);
        Due.give(x, Due.units("+AAAAAAAAAAAAAAAAAAAAAAA"));
        DUE.same("24 signs", x.code(false), 0);
        DUE.all("eight characters and ten bits", x, "1 0 8 24 8 0");
        ResumableCoder y = Due.decoder(3);
        Due.giveTimes(y, 24, 1);
        DUE.same("24 bytes", y.code(false), 0);
        DUE.all("twelve characters", y, "1 0 12 24 12 0");
        ResumableCoder z = Due.decoder(0);
        Due.giveTimes(z, 24, 1);
        DUE.same("24 characters", z.code(true), 1);
        DUE.all("sixteen fit", z, "2 8 16 16 16 0");
    }

    /** "the ACTION for its kind": nine pairs of actions, a BAD and an UNKNOWN. */
    private static void eachKindItsAction() {
        String[] forBad = {"17:", "0: 65", "0: 63 65"};
        String[] forUnknown = {"33:", "0: 65", "0: 63 65"};
        for (int bad = 0; bad < 3; bad++) {
            for (int unknown = 0; unknown < 3; unknown++) {
                DUE.same("bad " + bad + unknown, Due.run(
                        Due.opened(6, true, bad, unknown), false, 56320, 65), forBad[bad]);
                DUE.same("unknown " + bad + unknown, Due.run(
                        Due.opened(6, true, bad, unknown), false, 300, 65), forUnknown[unknown]);
            }
        }
    }
}
