/** Compares answers with those that are due, and ends a test's program with what came of it. */
final class Due {
    private int compared;
    private int wrong;

    void same(String what, long got, long want) {
        compared++;
        if (got != want) {
            wrong++;
            System.out.println(what + " answered " + got + ", due is " + want);
        }
    }

    void same(String what, String got, String want) {
        compared++;
        if (!got.equals(want)) {
            wrong++;
            System.out.println(what + " answered <" + got + ">, due is <" + want + ">");
        }
    }

    void yes(String what, boolean got) {
        same(what, got ? 1 : 0, 1);
    }

    void no(String what, boolean got) {
        same(what, got ? 1 : 0, 0);
    }

    /** Compares state, waiting, ready, taken, put and faults, in this order. */
    void all(String what, ResumableCoder x, String want) {
        same(what, counts(x), want);
    }

    static String counts(ResumableCoder x) {
        return x.state() + " " + x.waiting() + " " + x.ready() + " "
                + x.taken() + " " + x.put() + " " + x.faults();
    }

    static ResumableCoder opened(int set, boolean encode, int bad, int unknown) {
        ResumableCoder x = new ResumableCoder();
        x.open(set, encode, bad, unknown);
        return x;
    }

    static ResumableCoder decoder(int set) {
        return opened(set, false, 0, 0);
    }

    static ResumableCoder encoder(int set) {
        return opened(set, true, 0, 0);
    }

    static void give(ResumableCoder x, int... units) {
        for (int unit : units) {
            x.give(unit);
        }
    }

    static void giveTimes(ResumableCoder x, int n, int unit) {
        for (int i = 0; i < n; i++) {
            x.give(unit);
        }
    }

    /** Gives, codes, and tells the answer and, behind a colon, all that is ready then. */
    static String run(ResumableCoder x, boolean ends, int... units) {
        give(x, units);
        int answer = x.code(ends);
        return answer + ":" + fetched(x);
    }

    static String fetched(ResumableCoder x) {
        StringBuilder units = new StringBuilder();
        for (int i = 0; i < 64 && x.ready() > 0; i++) {
            units.append(' ').append(x.fetch());
        }
        return units.toString();
    }

    /** As one row of units, for a text of ASCII characters. */
    static String codes(String text) {
        StringBuilder units = new StringBuilder();
        for (char c : text.toCharArray()) {
            units.append(' ').append((int) c);
        }
        return units.toString();
    }

    static int[] units(String text) {
        return text.chars().toArray();
    }

    void end() {
        System.out.println(compared + " answers, " + wrong + " not as due");
        if (wrong != 0 || compared == 0) {
            System.exit(1);
        }
    }
}
