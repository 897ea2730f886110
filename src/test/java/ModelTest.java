/**
 * Runs of calls, chosen by a counter's arithmetic and so always the same, each answered by the
 * program and by the model. In short runs the six counts are compared after every call, in long
 * ones only at the end: they are calls, too, and the document speaks of 512 for one object.
 */
public final class ModelTest {
    private static final int RUNS = 40000;
    private static final int COUNTS = 6;
    private static final int MOST_CALLS = 512;
    private static final int SHORT_RUN = MOST_CALLS / (1 + COUNTS);
    private static final int LONG_RUN = MOST_CALLS - COUNTS;
    private static final int MOST_TOLD = 20;
    private static final int[][] POOLS = {
        {0, 65, 127, 128, 130, 143, 144, 159, 160, 191, 192, 193, 194, 223, 224, 225, 237, 239,
            240, 241, 243, 244, 245, 255},
        {0, 65, 97, 127, 128, 129, 191, 192, 193, 223, 224, 237, 159, 160, 239, 240},
        {254, 255, 254, 255, 0, 65, 216, 219, 220, 223, 224, 61, 255},
        {0, 65, 216, 219, 220, 223, 254, 255, 215, 224},
        {0, 65, 216, 219, 220, 223, 254, 255, 215, 224},
        {43, 43, 45, 65, 65, 65, 79, 81, 122, 48, 57, 47, 33, 32, 126, 0, 127, 128, 255, 92},
        {0, 65, 127, 128, 129, 130, 131, 254, 255},
    };
    private static final int[] CHARACTERS = {0, 65, 97, 43, 45, 33, 64, 91, 96, 123, 127, 128, 228,
        255, 2047, 2048, 8364, 55295, 55296, 55296, 55357, 56319, 56320, 56832, 57343, 57344, 65533,
        65535};

    private long seed = 1;
    private int set;
    private boolean encode;
    private int wrong;

    public static void main(String[] args) {
        ModelTest test = new ModelTest();
        for (int run = 0; run < RUNS && test.wrong < MOST_TOLD; run++) {
            test.compareRun(run);
        }
        System.out.println(RUNS + " runs, " + test.wrong + " not as due");
        if (test.wrong != 0) {
            System.exit(1);
        }
    }

    private int below(int n) {
        seed = seed * 6364136223846793005L + 1442695040888963407L;
        return (int) ((seed >>> 33) % n);
    }

    private int pick(int[] from) {
        return from[below(from.length)];
    }

    private void compareRun(int run) {
        ResumableCoder x = new ResumableCoder();
        Model m = new Model();
        int favourite = run % 7;
        boolean direction = run / 7 % 2 == 0;
        int actions = run / 14 % 9;
        StringBuilder told = new StringBuilder();
        boolean isLong = below(8) == 0;
        int calls = isLong ? LONG_RUN : SHORT_RUN;
        for (int call = 0; call < calls; call++) {
            int kind = call == 0 && run % 50 != 0 ? 0 : below(100);
            int before = told.length();
            boolean same = kind == 0 ? opens(x, m, told, favourite, direction, actions)
                    : makes(kind, x, m, told);
            boolean counted = !isLong || call == calls - 1;
            if (!same || counted && !Due.counts(x).equals(m.counts())) {
                wrong++;
                System.out.println("run " + run + ":" + told + "; counts " + Due.counts(x)
                        + ", due are " + m.counts() + ", from" + told.substring(before));
                return;
            }
        }
    }

    private boolean opens(ResumableCoder x, Model m, StringBuilder told,
            int favourite, boolean direction, int actions) {
        boolean other = below(3) == 0;
        int s = other ? below(9) - 1 : favourite;
        boolean e = other ? below(2) == 0 : direction;
        int bad = other ? below(5) - 1 : actions / 3;
        int unknown = other ? below(5) - 1 : actions % 3;
        boolean got = x.open(s, e, bad, unknown);
        boolean due = m.open(s, e, bad, unknown);
        told.append(" open(").append(s).append(' ').append(e).append(' ').append(bad).append(' ')
                .append(unknown).append(")=").append(got);
        if (due) {
            set = s;
            encode = e;
        }
        return got == due;
    }

    private boolean makes(int kind, ResumableCoder x, Model m, StringBuilder told) {
        if (kind < 50) {
            int unit = unit();
            boolean got = x.give(unit);
            told.append(" give(").append(unit).append(")=").append(got);
            return got == m.give(unit);
        }
        if (kind < 54) {
            int b = below(10) == 0 ? pick(new int[] {127, 256, -1, 0}) : pick(POOLS[6]);
            int c = below(8) == 0 ? pick(new int[] {-1, -1, -2, 65536}) : pick(CHARACTERS);
            boolean got = x.map(b, c);
            told.append(" map(").append(b).append(' ').append(c).append(")=").append(got);
            return got == m.map(b, c);
        }
        if (kind < 58) {
            int n = below(3) == 0 ? below(19) - 1 : 16;
            boolean got = x.room(n);
            told.append(" room(").append(n).append(")=").append(got);
            return got == m.room(n);
        }
        return makesWithoutUnits(kind, x, m, told);
    }

    private boolean makesWithoutUnits(int kind, ResumableCoder x, Model m, StringBuilder told) {
        int got;
        int due;
        if (kind < 72) {
            boolean ends = below(8) == 0;
            got = x.code(ends);
            due = m.code(ends);
            told.append(" code(").append(ends).append(")=").append(got);
        } else if (kind < 74) {
            got = x.flush();
            due = m.flush();
            told.append(" flush=").append(got);
        } else if (kind < 76) {
            got = x.reset() ? 1 : 0;
            due = m.reset() ? 1 : 0;
            told.append(" reset=").append(got);
        } else if (kind < 83) {
            got = x.pass() ? 1 : 0;
            due = m.pass() ? 1 : 0;
            told.append(" pass=").append(got);
        } else {
            got = x.fetch();
            due = m.fetch();
            told.append(" fetch=").append(got);
        }
        return got == due;
    }

    private int unit() {
        int way = below(40);
        if (way == 0) {
            return pick(new int[] {-1, 256, 65536, Integer.MIN_VALUE, Integer.MAX_VALUE});
        }
        if (way < 4) {
            return below(encode ? 65536 : 256);
        }
        return encode ? pick(CHARACTERS) : pick(POOLS[set]);
    }
}
