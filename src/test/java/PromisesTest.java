/** One method for each promise: ordinary inputs, edges, and calls that are refused. */
public final class PromisesTest {
    private static final Due DUE = new Due();
    private static final int REPORT = 0;
    private static final int PASS_OVER = 1;
    private static final int REPLACE = 2;

    public static void main(String[] args) {
        promise1();
        promise2();
        promise2Refused();
        promise3();
        promise3Refused();
        promise4();
        promise5();
        promise6();
        promise6Actions();
        promise7();
        promise7Refused();
        promise8();
        promise9();
        promise9TakenBack();
        promise10();
        promise11();
        promises12To16();
        DUE.end();
    }

    private static void promise1() {
        ResumableCoder x = new ResumableCoder();
        DUE.all("1 counts", x, "-1 0 0 0 0 0");
        DUE.no("1 give", x.give(65));
        DUE.same("1 code", x.code(false), -1);
        DUE.same("1 code at the end", x.code(true), -1);
        DUE.same("1 flush", x.flush(), -1);
        DUE.no("1 reset", x.reset());
        DUE.no("1 pass", x.pass());
        DUE.same("1 fetch", x.fetch(), -1);
        DUE.all("1 counts after refused calls", x, "-1 0 0 0 0 0");
        for (int b = 128; b < 256; b++) {
            x.open(6, false, REPORT, REPORT);
            x.give(b);
            DUE.same("1 byte " + b, x.code(true), 33);
        }
        x.open(0, false, REPORT, REPORT);
        for (int i = 0; i < 17; i++) {
            x.give(65);
        }
        DUE.same("1 room", x.code(false), 1);
        DUE.all("1 counts at the room", x, "1 1 16 16 16 0");
    }

    private static void promise2() {
        for (int set = 0; set < 7; set++) {
            for (int action = 0; action < 9; action++) {
                ResumableCoder x = new ResumableCoder();
                DUE.yes("2 decode " + set, x.open(set, false, action / 3, action % 3));
                DUE.all("2 counts " + set, x, "0 0 0 0 0 0");
                DUE.no("2 a decoder takes bytes", x.give(256));
                DUE.yes("2 encode " + set, x.open(set, true, action / 3, action % 3));
                DUE.yes("2 an encoder takes characters", x.give(256));
            }
        }
        ResumableCoder x = new ResumableCoder();
        x.map(128, 8364);
        x.room(3);
        x.open(6, false, PASS_OVER, PASS_OVER);
        Due.give(x, 128, 129, 65, 66, 67);
        DUE.same("2 before", x.code(true), 1);
        DUE.all("2 counts before", x, "2 1 3 4 3 1");
        DUE.yes("2 again", x.open(6, false, REPORT, REPORT));
        DUE.all("2 nothing is kept", x, "0 0 0 0 0 0");
        DUE.same("2 nothing is ready", x.fetch(), -1);
        Due.give(x, 128, 65, 66, 67);
        DUE.same("2 page and room stay", x.code(false) + ":" + Due.fetched(x), "1: 8364 65 66");
        ResumableCoder shifted = Due.decoder(5);
        Due.run(shifted, false, '+', 'A');
        shifted.open(5, false, REPORT, REPORT);
        DUE.same("2 plain again", Due.run(shifted, true, 'A'), "0: 65");
        ResumableCoder turned = Due.decoder(2);
        Due.run(turned, false, 255, 254, 65, 0);
        turned.open(2, false, REPORT, REPORT);
        DUE.same("2 higher bits first again", Due.run(turned, false, 65, 0), "0: 16640");
    }

    private static void promise2Refused() {
        int[][] wrong = {{-1, 0, 0}, {7, 0, 0}, {0, -1, 0}, {0, 3, 0}, {0, 0, -1}, {0, 0, 3},
            {Integer.MIN_VALUE, 0, 0}, {Integer.MAX_VALUE, 0, 0},
            {0, Integer.MIN_VALUE, 0}, {0, 0, Integer.MAX_VALUE}};
        for (int[] w : wrong) {
            ResumableCoder closed = new ResumableCoder();
            DUE.no("2 refused", closed.open(w[0], false, w[1], w[2]));
            DUE.same("2 still none", closed.state(), -1);
            ResumableCoder x = Due.opened(0, true, REPORT, REPLACE);
            Due.give(x, 65, 56320, 66);
            DUE.same("2 the fault", x.code(true), 17);
            DUE.no("2 refused", x.open(w[0], false, w[1], w[2]));
            DUE.all("2 all stays", x, "2 2 1 1 1 0");
            DUE.yes("2 pass stays allowed", x.pass());
            DUE.same("2 the set stays", Due.run(x, true, 233), "0: 65 66 195 169");
        }
    }

    private static void promise3() {
        ResumableCoder x = new ResumableCoder();
        DUE.yes("3 without a coder", x.map(128, 0));
        DUE.yes("3 greatest", x.map(255, 65535));
        x.open(6, false, REPORT, REPORT);
        DUE.same("3 decoded", Due.run(x, false, 128, 255), "0: 0 65535");
        x.give(200);
        DUE.yes("3 while units wait", x.map(200, 300));
        DUE.same("3 at once", Due.run(x, false), "0: 300");
        DUE.yes("3 in place", x.map(200, 301));
        DUE.same("3 replaced", Due.run(x, false, 200), "0: 301");
        DUE.yes("3 none", x.map(200, -1));
        DUE.same("3 none any more", Due.run(x, false, 200), "33:");
        x.map(200, 301);
        x.map(199, 301);
        x.open(6, true, REPORT, REPORT);
        DUE.same("3 the least byte", Due.run(x, false, 301), "0: 199");
        x.map(199, 302);
        DUE.same("3 the other byte", Due.run(x, false, 301, 302), "0: 200 199");
        DUE.same("3 a character below 128 is itself", Due.run(x, false, 0), "0: 0");
    }

    private static void promise3Refused() {
        int[][] wrong = {{127, 5}, {256, 5}, {0, 5}, {-1, 5}, {200, -2}, {200, 65536}, {127, -1},
            {Integer.MIN_VALUE, 5}, {Integer.MAX_VALUE, 5},
            {200, Integer.MIN_VALUE}, {200, Integer.MAX_VALUE}};
        for (int[] w : wrong) {
            ResumableCoder x = new ResumableCoder();
            x.map(200, 7000);
            x.open(6, false, REPORT, REPORT);
            DUE.same("3 fault", Due.run(x, false, 201), "33:");
            DUE.no("3 refused", x.map(w[0], w[1]));
            DUE.yes("3 pass stays allowed", x.pass());
            DUE.same("3 page stays", Due.run(x, false, 200, 127), "0: 7000 127");
        }
    }

    private static void promise4() {
        ResumableCoder x = Due.decoder(0);
        DUE.no("4 below", x.give(-1));
        DUE.no("4 above", x.give(256));
        DUE.no("4 far below", x.give(Integer.MIN_VALUE));
        DUE.no("4 far above", x.give(Integer.MAX_VALUE));
        DUE.same("4 nothing waits", x.waiting(), 0);
        DUE.yes("4 least", x.give(0));
        DUE.yes("4 greatest", x.give(255));
        DUE.same("4 two wait", x.waiting(), 2);
        for (int i = 2; i < 24; i++) {
            DUE.yes("4 unit " + i, x.give(i));
        }
        DUE.no("4 the 25th", x.give(65));
        DUE.all("4 counts", x, "0 24 0 0 0 0");
        DUE.same("4 the first", x.code(false), 17);
        DUE.same("4 in their order", Due.fetched(x), " 0");
        ResumableCoder y = Due.encoder(1);
        DUE.no("4 below", y.give(-1));
        DUE.no("4 above", y.give(65536));
        DUE.yes("4 least", y.give(0));
        DUE.yes("4 greatest", y.give(65535));
        y.code(true);
        y.flush();
        DUE.yes("4 when flushed", y.give(65));
        DUE.all("4 counts when flushed", y, "3 1 5 2 5 0");
    }

    private static void promise5() {
        ResumableCoder x = new ResumableCoder();
        DUE.no("5 below", x.room(-1));
        DUE.no("5 above", x.room(17));
        DUE.no("5 far below", x.room(Integer.MIN_VALUE));
        DUE.no("5 far above", x.room(Integer.MAX_VALUE));
        DUE.yes("5 without a coder", x.room(2));
        x.open(0, false, REPORT, REPORT);
        Due.give(x, 65, 66, 67, 68);
        DUE.same("5 two fit", x.code(false), 1);
        DUE.no("5 refused", x.room(17));
        DUE.same("5 still two", x.code(false), 1);
        DUE.all("5 counts", x, "1 2 2 2 2 0");
        DUE.yes("5 less than ready", x.room(0));
        DUE.same("5 they stay", x.ready(), 2);
        DUE.same("5 nothing fits", x.code(false), 1);
        x.fetch();
        x.fetch();
        DUE.same("5 nothing fits in no room", x.code(false), 1);
        DUE.yes("5 one", x.room(1));
        DUE.same("5 one fits", Due.run(x, false), "1: 67");
        DUE.yes("5 most", x.room(16));
        DUE.same("5 the rest", Due.run(x, false), "0: 68");
    }

    private static void promise6() {
        ResumableCoder x = Due.decoder(0);
        DUE.same("6 nothing waits", x.code(false), 0);
        DUE.same("6 coding", x.state(), 1);
        DUE.same("6 incomplete", Due.run(x, false, 226, 130), "0:");
        DUE.same("6 incomplete at the end", x.code(true), 18);
        DUE.all("6 the units go on waiting", x, "2 2 0 0 0 0");
        DUE.same("6 ended refuses more", x.code(false), -1);
        DUE.same("6 ended may end again", x.code(true), 18);
        x.give(172);
        DUE.same("6 complete", Due.run(x, true), "0: 8364");
        DUE.same("6 ended with nothing waiting", x.code(true), 0);
        x.flush();
        DUE.same("6 flushed refuses", x.code(false), -1);
        DUE.same("6 flushed refuses the end", x.code(true), -1);
        DUE.same("6 flushed stays", x.state(), 3);
        ResumableCoder over = Due.decoder(0);
        over.room(1);
        DUE.same("6 a pair needs two", Due.run(over, true, 240, 159, 152, 128), "1:");
        DUE.all("6 the step is not made", over, "2 4 0 0 0 0");
        over.room(2);
        DUE.same("6 two are enough", Due.run(over, true), "0: 55357 56832");
        ResumableCoder fault = Due.decoder(0);
        DUE.same("6 a fault codes too", Due.run(fault, false, 255), "17:");
        DUE.same("6 coding", fault.state(), 1);
    }

    private static void promise6Actions() {
        ResumableCoder x = Due.opened(6, true, PASS_OVER, REPLACE);
        DUE.same("6 each kind has its action", Due.run(x, false, 56320, 65, 300), "0: 65 63");
        DUE.all("6 counts", x, "1 0 0 3 2 2");
        x.open(6, true, REPLACE, PASS_OVER);
        DUE.same("6 the other way", Due.run(x, false, 56320, 65, 300), "0: 63 65");
        x.open(6, true, REPORT, PASS_OVER);
        DUE.same("6 bad reported", Due.run(x, false, 300, 56320, 65), "17:");
        x.open(6, true, PASS_OVER, REPORT);
        DUE.same("6 unknown reported", Due.run(x, false, 56320, 55296, 56320), "34:");
        x.open(6, true, REPLACE, REPORT);
        DUE.same("6 a high one alone", Due.run(x, false, 55296), "0:");
        DUE.same("6 is bad at the end", Due.run(x, true), "0: 63");
        ResumableCoder over = Due.opened(4, true, REPLACE, REPORT);
        over.room(1);
        DUE.same("6 a replacement needs room", Due.run(over, true, 56320), "1:");
        DUE.all("6 it is not put", over, "2 1 0 0 0 0");
        DUE.no("6 no fault was answered", over.pass());
        over.room(2);
        DUE.same("6 a replacement of two bytes", Due.run(over, true), "0: 63 0");
        DUE.all("6 it counts", over, "2 0 0 1 2 1");
        ResumableCoder end = Due.opened(0, false, REPLACE, REPORT);
        end.room(0);
        DUE.same("6 none for the end's fault", Due.run(end, true, 226, 130), "1:");
        end.room(1);
        DUE.same("6 one for the end's fault", Due.run(end, true), "0: 65533");
        ResumableCoder many = Due.opened(2, true, PASS_OVER, REPORT);
        for (int i = 0; i < 24; i++) {
            many.give(56320);
        }
        DUE.same("6 as many faults as may wait", Due.run(many, true), "0: 254 255");
        DUE.all("6 all passed over", many, "2 0 0 24 2 24");
        ResumableCoder none = Due.opened(0, false, PASS_OVER, REPORT);
        none.room(0);
        DUE.same("6 passing over needs no room", Due.run(none, true, 255, 254), "0:");
        DUE.all("6 both passed over", none, "2 0 0 2 0 2");
    }

    private static void promise7() {
        ResumableCoder x = Due.encoder(5);
        DUE.same("7 shifted", Due.run(x, true, 8364), "0: 43 73 75");
        x.room(1);
        DUE.same("7 two do not fit", x.flush(), 1);
        DUE.all("7 nothing changes", x, "2 0 0 1 3 0");
        DUE.same("7 it may go on", Due.run(x, true, 8364), "1:");
        x.room(2);
        DUE.same("7 two fit", x.flush() + ":" + Due.fetched(x), "0: 119 45");
        DUE.all("7 flushed", x, "3 1 0 1 5 0");
        DUE.same("7 flushed again", x.flush() + ":" + Due.fetched(x), "0:");
        DUE.all("7 nothing changes then", x, "3 1 0 1 5 0");
        ResumableCoder whole = Due.encoder(5);
        DUE.same("7 no bits kept", Due.run(whole, true, 8364, 8364, 8364),
                "0:" + Due.codes("+IKwgrCCs"));
        whole.room(0);
        DUE.same("7 the minus needs room", whole.flush(), 1);
        whole.room(1);
        DUE.same("7 the minus alone", whole.flush() + ":" + Due.fetched(whole), "0: 45");
        ResumableCoder plain = Due.encoder(5);
        Due.give(plain, 65, 66);
        plain.code(true);
        plain.room(0);
        DUE.same("7 a plain one", plain.flush() + ":" + Due.fetched(plain), "0: 65 66");
        ResumableCoder decoding = Due.decoder(5);
        Due.run(decoding, true, '+', 'A', 'A');
        DUE.same("7 a decoding one", decoding.flush() + ":" + Due.fetched(decoding), "0:");
        for (int set = 0; set < 7; set++) {
            ResumableCoder other = Due.encoder(set);
            other.code(true);
            DUE.same("7 set " + set, other.flush(), 0);
            DUE.all("7 counts of set " + set, other, "3 0 0 0 0 0");
            other.reset();
            Due.run(other, true, 65, 66);
            int puts = other.put();
            DUE.same("7 set " + set + " with units", other.flush(), 0);
            DUE.all("7 counts then", other, "3 0 0 2 " + puts + " 0");
        }
    }

    private static void promise7Refused() {
        ResumableCoder x = Due.encoder(5);
        DUE.same("7 fresh", x.flush(), -1);
        DUE.same("7 coding", Due.run(x, false, 228), "0: 43 65 79");
        DUE.same("7 refused", x.flush(), -1);
        DUE.all("7 refused changes nothing", x, "1 0 0 1 3 0");
        DUE.same("7 still shifted", Due.run(x, true, 228), "0: 81 65 53");
        DUE.same("7 ended", x.flush() + ":" + Due.fetched(x), "0: 65 45");
        x.reset();
        DUE.same("7 fresh again", x.flush(), -1);
    }

    private static void promise8() {
        ResumableCoder x = Due.opened(0, true, PASS_OVER, REPORT);
        Due.give(x, 65, 56320, 55296);
        x.code(true);
        Due.give(x, 66, 67);
        x.flush();
        DUE.all("8 before", x, "3 2 1 3 1 2");
        DUE.yes("8 reset", x.reset());
        DUE.all("8 the rest stays", x, "0 2 1 3 1 2");
        DUE.same("8 and goes on", Due.run(x, false), "0: 65 66 67");
        ResumableCoder shifted = Due.encoder(5);
        DUE.same("8 shifted", Due.run(shifted, false, 228), "0: 43 65 79");
        shifted.reset();
        DUE.same("8 plain, no bits", Due.run(shifted, true, 228), "0: 43 65 79");
        shifted.reset();
        shifted.code(true);
        DUE.same("8 nothing to flush", shifted.flush() + ":" + Due.fetched(shifted), "0:");
        ResumableCoder decoding = Due.decoder(5);
        DUE.same("8 shifted", Due.run(decoding, false, '+', 'A', 'O'), "0:");
        decoding.reset();
        DUE.same("8 plain", Due.run(decoding, false, 'Q', '-'), "0: 81 45");
        ResumableCoder marks = Due.encoder(2);
        DUE.same("8 a mark", Due.run(marks, false, 65), "0: 254 255 0 65");
        DUE.same("8 once", Due.run(marks, false, 65), "0: 0 65");
        marks.reset();
        DUE.same("8 nothing waits, no mark", Due.run(marks, false), "0:");
        DUE.same("8 a mark again", Due.run(marks, false, 65), "0: 254 255 0 65");
        ResumableCoder order = Due.decoder(2);
        DUE.same("8 turned", Due.run(order, false, 255, 254, 65, 0), "0: 65");
        order.reset();
        DUE.same("8 turned back", Due.run(order, false, 65, 0), "0: 16640");
        order.reset();
        DUE.same("8 a mark again", Due.run(order, false, 255, 254, 65, 0), "0: 65");
        ResumableCoder little = Due.encoder(4);
        Due.run(little, true, 65);
        little.reset();
        DUE.same("8 set 4 stays itself", Due.run(little, true, 65), "0: 65 0");
    }

    private static void promise9() {
        ResumableCoder x = Due.decoder(0);
        DUE.no("9 fresh", x.pass());
        DUE.same("9 fault", Due.run(x, false, 226, 130, 65), "18:");
        DUE.yes("9 pass", x.pass());
        DUE.all("9 both units", x, "1 1 0 2 0 1");
        DUE.no("9 the second time", x.pass());
        DUE.all("9 refused changes nothing", x, "1 1 0 2 0 1");
        DUE.same("9 goes on", Due.run(x, false), "0: 65");
        DUE.no("9 after underflow", x.pass());
        x.room(0);
        DUE.same("9 no room", Due.run(x, false, 65), "1:");
        DUE.no("9 after overflow", x.pass());
        ResumableCoder page = Due.encoder(6);
        DUE.same("9 unknown", Due.run(page, false, 55296, 56320, 65), "34:");
        DUE.yes("9 pass", page.pass());
        DUE.all("9 the pair", page, "1 1 0 2 0 1");
        ResumableCoder end = Due.decoder(0);
        DUE.same("9 incomplete", Due.run(end, true, 240, 159, 152), "19:");
        DUE.yes("9 pass", end.pass());
        DUE.all("9 all three", end, "2 0 0 3 0 1");
        ResumableCoder shifted = Due.decoder(5);
        DUE.same("9 bad when just begun", Due.run(shifted, false, '+', '!', 'A'), "17:");
        DUE.yes("9 pass", shifted.pass());
        DUE.same("9 plain then", Due.run(shifted, false), "0: 65");
        ResumableCoder first = Due.decoder(2);
        DUE.same("9 bad at the front", Due.run(first, false, 220, 0, 255, 254), "18:");
        DUE.yes("9 pass", first.pass());
        DUE.same("9 it has taken something", Due.run(first, false), "0: 65534");
    }

    private static void promise9TakenBack() {
        ResumableCoder x = Due.decoder(0);
        Due.give(x, 255, 255, 255, 255, 255);
        DUE.same("9 fault", x.code(false), 17);
        x.give(65);
        DUE.no("9 after give", x.pass());
        DUE.same("9 fault", x.code(false), 17);
        x.map(128, 65);
        DUE.no("9 after map", x.pass());
        DUE.same("9 fault", x.code(false), 17);
        x.reset();
        DUE.no("9 after reset", x.pass());
        DUE.all("9 nothing changed", x, "0 6 0 0 0 0");
        DUE.same("9 fault", x.code(true), 17);
        DUE.no("9 give refused", x.give(256));
        DUE.no("9 map refused", x.map(127, 65));
        DUE.no("9 open refused", x.open(7, false, 0, 0));
        DUE.same("9 code refused", x.code(false), -1);
        DUE.yes("9 the room may change", x.room(0));
        DUE.same("9 fetch may be called", x.fetch(), -1);
        DUE.same("9 flush may be called", x.flush(), 0);
        DUE.yes("9 pass after all these", x.pass());
        DUE.all("9 one unit", x, "3 5 0 1 0 1");
        x.open(0, false, REPORT, REPORT);
        x.give(255);
        x.code(false);
        x.open(0, false, REPORT, REPORT);
        DUE.no("9 after open", x.pass());
        ResumableCoder full = Due.decoder(0);
        for (int i = 0; i < 24; i++) {
            full.give(255);
        }
        DUE.same("9 fault", full.code(false), 17);
        DUE.no("9 the 25th is refused", full.give(65));
        DUE.yes("9 pass stays allowed", full.pass());
    }

    private static void promise10() {
        ResumableCoder x = Due.decoder(0);
        DUE.same("10 none", x.fetch(), -1);
        for (int i = 0; i < 40; i++) {
            x.give(i);
            x.give(i + 1);
            x.code(false);
            DUE.same("10 first", x.fetch(), i);
            DUE.same("10 one is left", x.ready(), 1);
            DUE.same("10 second", x.fetch(), i + 1);
            DUE.same("10 none is left", x.fetch(), -1);
        }
        Due.give(x, 1, 2, 3);
        x.code(false);
        x.fetch();
        Due.give(x, 4);
        x.code(false);
        DUE.same("10 longest ready first", Due.fetched(x), " 2 3 4");
        DUE.all("10 the counts stay", x, "1 0 0 84 84 0");
    }

    private static void promise11() {
        ResumableCoder x = new ResumableCoder();
        DUE.same("11 none", x.state(), -1);
        x.open(0, false, REPORT, REPORT);
        DUE.same("11 fresh", x.state(), 0);
        x.give(65);
        DUE.same("11 still fresh", x.state(), 0);
        x.code(false);
        DUE.same("11 coding", x.state(), 1);
        x.code(true);
        DUE.same("11 ended", x.state(), 2);
        x.flush();
        DUE.same("11 flushed", x.state(), 3);
        x.reset();
        DUE.same("11 fresh again", x.state(), 0);
        x.code(true);
        DUE.same("11 ended at once", x.state(), 2);
        x.reset();
        DUE.same("11 fresh from ended", x.state(), 0);
        ResumableCoder over = Due.encoder(5);
        Due.run(over, true, 228);
        over.room(0);
        over.flush();
        DUE.same("11 not flushed", over.state(), 2);
    }

    private static void promises12To16() {
        ResumableCoder x = Due.opened(0, true, REPLACE, REPORT);
        Due.give(x, 65, 233, 8364, 55357, 56832, 56320, 55357);
        DUE.all("12 to 16 given", x, "0 7 0 0 0 0");
        x.code(false);
        DUE.all("12 to 16 coded", x, "1 1 11 6 11 1");
        x.code(true);
        DUE.all("12 to 16 ended", x, "2 0 12 7 12 2");
        x.fetch();
        DUE.all("12 to 16 fetched", x, "2 0 11 7 12 2");
        x.flush();
        DUE.all("12 to 16 flushed", x, "3 0 11 7 12 2");
        x.reset();
        DUE.all("12 to 16 reset", x, "0 0 11 7 12 2");
        ResumableCoder y = Due.opened(2, false, PASS_OVER, REPORT);
        Due.give(y, 254, 255, 220, 0, 0, 65, 0);
        y.code(true);
        DUE.all("12 to 16 mark and faults", y, "2 0 1 7 1 2");
        ResumableCoder z = Due.encoder(5);
        Due.run(z, true, 228);
        z.flush();
        DUE.all("12 to 16 flush puts", z, "3 0 2 1 5 0");
    }
}
