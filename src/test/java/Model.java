import java.io.ByteArrayOutputStream;
import java.io.DataOutputStream;
import java.io.IOException;
import java.nio.charset.StandardCharsets;
import java.util.ArrayList;
import java.util.HashMap;
import java.util.List;
import java.util.Map;

/**
 * The document once more, written for the tests in another way than the program: lists that are
 * copied, bits as texts, and tables of all encodings, made with the Java library's own coders.
 */
final class Model {
    private static final Encodings UTF_8 = new Encodings(false);
    private static final Encodings MODIFIED = new Encodings(true);
    private static final String SIGNS =
            "ABCDEFGHIJKLMNOPQRSTUVWXYZabcdefghijklmnopqrstuvwxyz0123456789+/";

    private final Map<Integer, Integer> page = new HashMap<>();
    private int room = 16;
    private int state = -1;
    private int set;
    private boolean encode;
    private int[] actions = new int[2];
    private List<Integer> waiting = new ArrayList<>();
    private List<Integer> ready = new ArrayList<>();
    private int taken;
    private int put;
    private int faults;
    private int takenBefore;
    private int putBefore;
    private boolean littleMark;
    /** UTF-7: null when plain, else the kept bits, behind a ! when the shift has just begun. */
    private String kept;
    private int passable;

    /** What the look at the waiting units found. */
    private record Look(char kind, int n, List<Integer> puts, String keptThen) {
    }

    boolean open(int s, boolean e, int bad, int unknown) {
        if (s < 0 || s > 6 || bad < 0 || bad > 2 || unknown < 0 || unknown > 2) {
            return false;
        }
        set = s;
        encode = e;
        actions = new int[] {bad, unknown};
        waiting = new ArrayList<>();
        ready = new ArrayList<>();
        taken = put = faults = 0;
        return reset0();
    }

    private boolean reset0() {
        state = 0;
        takenBefore = taken;
        putBefore = put;
        littleMark = false;
        kept = null;
        passable = 0;
        return true;
    }

    boolean map(int b, int c) {
        if (b < 128 || b > 255 || c < -1 || c > 65535) {
            return false;
        }
        page.remove(b);
        if (c >= 0) {
            page.put(b, c);
        }
        passable = 0;
        return true;
    }

    boolean give(int unit) {
        if (state < 0 || waiting.size() >= 24 || unit < 0 || unit > (encode ? 65535 : 255)) {
            return false;
        }
        waiting.add(unit);
        passable = 0;
        return true;
    }

    boolean room(int n) {
        if (n < 0 || n > 16) {
            return false;
        }
        room = n;
        return true;
    }

    int code(boolean ends) {
        if (state < 0 || state == 3 || state == 2 && !ends) {
            return -1;
        }
        state = ends ? 2 : 1;
        passable = 0;
        while (true) {
            Look look = waiting.isEmpty() ? new Look('N', 0, List.of(), null) : look();
            if (look.kind == 'N' && (!ends || waiting.isEmpty())) {
                return 0;
            }
            if (look.kind == 'N') {
                look = new Look('B', waiting.size(), List.of(), null);
            }
            if (look.kind == 'S') {
                if (!fits(look.puts)) {
                    return 1;
                }
                boolean turns = isMarkStep() && waiting.get(0) == 255;
                littleMark |= turns;
                kept = look.keptThen;
                take(look.n);
                putAll(look.puts);
                continue;
            }
            int action = actions[look.kind == 'B' ? 0 : 1];
            if (action == 0) {
                passable = look.n;
                return look.n + (look.kind == 'B' ? 16 : 32);
            }
            if (action == 2 && !fits(replacement())) {
                return 1;
            }
            if (action == 2) {
                putAll(replacement());
            }
            passOver(look.n);
        }
    }

    int flush() {
        if (state < 2) {
            return -1;
        }
        if (encode && set == 5 && kept != null) {
            List<Integer> puts = new ArrayList<>();
            closeShift(puts);
            if (!fits(puts)) {
                return 1;
            }
            putAll(puts);
            kept = null;
        }
        state = 3;
        return 0;
    }

    boolean reset() {
        return state >= 0 && reset0();
    }

    boolean pass() {
        if (passable == 0) {
            return false;
        }
        passOver(passable);
        passable = 0;
        return true;
    }

    int fetch() {
        return ready.isEmpty() ? -1 : ready.remove(0);
    }

    String counts() {
        return state + " " + waiting.size() + " " + ready.size() + " "
                + taken + " " + put + " " + faults;
    }

    private boolean fits(List<Integer> puts) {
        return puts.isEmpty() || ready.size() + puts.size() <= room;
    }

    private void take(int n) {
        waiting = new ArrayList<>(waiting.subList(n, waiting.size()));
        taken += n;
    }

    private void putAll(List<Integer> puts) {
        ready.addAll(puts);
        put += puts.size();
    }

    private void passOver(int n) {
        take(n);
        faults++;
        kept = null;
    }

    private List<Integer> replacement() {
        if (!encode) {
            return List.of(65533);
        }
        return set == 2 || set == 3 ? List.of(0, 63) : set == 4 ? List.of(63, 0) : List.of(63);
    }

    private Look step(int n, Integer... puts) {
        return new Look('S', n, List.of(puts), kept);
    }

    private Look bad(int n) {
        return new Look('B', n, List.of(), kept);
    }

    private static Look need() {
        return new Look('N', 0, List.of(), null);
    }

    private Look look() {
        switch (set) {
            case 0: return encode ? encodeUtf8() : decodeBy(UTF_8);
            case 1: return encode ? new Look('S', 1, MODIFIED.of(waiting.get(0)), kept)
                    : decodeBy(MODIFIED);
            case 5: return encode ? encodeUtf7(waiting.get(0)) : decodeUtf7(waiting.get(0));
            case 6: return encode ? encodePage(waiting.get(0)) : decodePage(waiting.get(0));
            default: return encode ? encodeUtf16() : decodeUtf16();
        }
    }

    private static boolean high(int c) {
        return Character.isHighSurrogate((char) c);
    }

    private static boolean low(int c) {
        return Character.isLowSurrogate((char) c);
    }

    private boolean pairWaits() {
        return waiting.size() > 1 && high(waiting.get(0)) && low(waiting.get(1));
    }

    private Look unpaired() {
        return high(waiting.get(0)) && waiting.size() == 1 ? need() : bad(1);
    }

    private Look encodeUtf8() {
        int c = waiting.get(0);
        if (pairWaits()) {
            int p = Character.toCodePoint((char) c, (char) (int) waiting.get(1));
            return new Look('S', 2, UTF_8.of(p), kept);
        }
        return high(c) || low(c) ? unpaired() : new Look('S', 1, UTF_8.of(c), kept);
    }

    private Look decodeBy(Encodings table) {
        for (int n = 1; n <= Math.min(4, waiting.size()); n++) {
            Integer p = table.codePoint(waiting.subList(0, n));
            if (p != null && p > 65535) {
                return step(n, (int) Character.highSurrogate(p), (int) Character.lowSurrogate(p));
            }
            if (p != null) {
                return step(n, p);
            }
        }
        if (table.begins(waiting)) {
            return need();
        }
        int n = 1;
        while (n < waiting.size() && table.begins(waiting.subList(0, n + 1))) {
            n++;
        }
        return bad(n);
    }

    private Look encodeUtf16() {
        if (set == 2 && put == putBefore) {
            return step(0, 254, 255);
        }
        int c = waiting.get(0);
        if (pairWaits()) {
            int d = waiting.get(1);
            return set == 4 ? step(2, c & 255, c >> 8, d & 255, d >> 8)
                    : step(2, c >> 8, c & 255, d >> 8, d & 255);
        }
        if (high(c) || low(c)) {
            return unpaired();
        }
        return set == 4 ? step(1, c & 255, c >> 8) : step(1, c >> 8, c & 255);
    }

    private boolean isMarkStep() {
        return set == 2 && !encode && taken == takenBefore && waiting.size() > 1
                && (waiting.subList(0, 2).equals(List.of(254, 255))
                || waiting.subList(0, 2).equals(List.of(255, 254)));
    }

    private Look decodeUtf16() {
        if (waiting.size() == 1) {
            return need();
        }
        if (isMarkStep()) {
            return step(2);
        }
        int x = word(0);
        if (!high(x) && !low(x)) {
            return step(2, x);
        }
        if (low(x)) {
            return bad(2);
        }
        if (waiting.size() < 4) {
            return need();
        }
        return low(word(2)) ? step(4, x, word(2)) : bad(2);
    }

    private int word(int i) {
        int a = waiting.get(i);
        int b = waiting.get(i + 1);
        return set == 4 || littleMark ? b << 8 | a : a << 8 | b;
    }

    private static boolean direct(int c) {
        return c < 128 && (Character.isLetterOrDigit(c) || "\t\n\r '(),-./:?".indexOf(c) >= 0);
    }

    private void closeShift(List<Integer> puts) {
        String bits = kept.replace("!", "");
        if (!bits.isEmpty()) {
            puts.add(sign((bits + "00000").substring(0, 6)));
        }
        puts.add(45);
    }

    private static int sign(String six) {
        return SIGNS.charAt(Integer.parseInt(six, 2));
    }

    private static String bits(int n, int value) {
        String digits = Integer.toBinaryString(value);
        return "0".repeat(n - digits.length()) + digits;
    }

    private Look encodeUtf7(int c) {
        List<Integer> puts = new ArrayList<>();
        if (direct(c)) {
            if (kept != null) {
                closeShift(puts);
            }
            puts.add(c);
            return new Look('S', 1, puts, null);
        }
        if (kept == null && c == 43) {
            return new Look('S', 1, List.of(43, 45), null);
        }
        if (kept == null) {
            puts.add(43);
        }
        String bits = (kept == null ? "" : kept) + bits(16, c);
        while (bits.length() >= 6) {
            puts.add(sign(bits.substring(0, 6)));
            bits = bits.substring(6);
        }
        return new Look('S', 1, puts, bits);
    }

    private Look decodeUtf7(int b) {
        if (b > 127) {
            return bad(1);
        }
        if (kept == null) {
            return b == 43 ? new Look('S', 1, List.of(), "!") : step(1, b);
        }
        if (SIGNS.indexOf(b) >= 0) {
            String bits = kept.replace("!", "") + bits(6, SIGNS.indexOf(b));
            return bits.length() < 16 ? new Look('S', 1, List.of(), bits)
                    : new Look('S', 1, List.of(Integer.parseInt(bits.substring(0, 16), 2)),
                            bits.substring(16));
        }
        if (kept.equals("!")) {
            return b == 45 ? new Look('S', 1, List.of(43), null) : bad(1);
        }
        if (kept.length() >= 6 || kept.contains("1")) {
            return bad(1);
        }
        return new Look('S', 1, b == 45 ? List.of() : List.of(b), null);
    }

    private Look encodePage(int c) {
        if (c < 128) {
            return step(1, c);
        }
        for (int b = 128; b < 256; b++) {
            if (page.containsKey(b) && page.get(b) == c) {
                return step(1, b);
            }
        }
        if (pairWaits()) {
            return new Look('U', 2, List.of(), null);
        }
        return high(c) || low(c) ? unpaired() : new Look('U', 1, List.of(), null);
    }

    private Look decodePage(int b) {
        if (b < 128) {
            return step(1, b);
        }
        return page.containsKey(b) ? step(1, page.get(b)) : new Look('U', 1, List.of(), null);
    }

    /** Every encoding of UTF-8 or of its modified form, and every beginning of one. */
    private static final class Encodings {
        private final boolean modified;
        private final int[][] codePoints = new int[4][];
        private final boolean[][] beginnings = new boolean[4][];

        Encodings(boolean modified) {
            this.modified = modified;
            for (int n = 1; n <= 3; n++) {
                codePoints[n] = new int[1 << 8 * n];
                beginnings[n] = new boolean[1 << 8 * n];
            }
            for (int p = 0; p < (modified ? 65536 : 1114112); p++) {
                if (modified || p < 55296 || p > 57343) {
                    enter(p);
                }
            }
        }

        private void enter(int p) {
            List<Integer> encoding = of(p);
            if (encoding.size() < 4) {
                codePoints[encoding.size()][key(encoding)] = p + 1;
            }
            for (int n = 1; n < encoding.size(); n++) {
                beginnings[n][key(encoding.subList(0, n))] = true;
            }
        }

        private static int key(List<Integer> bytes) {
            int key = 0;
            for (int b : bytes) {
                key = key << 8 | b;
            }
            return key;
        }

        List<Integer> of(int p) {
            byte[] bytes = modified ? modifiedBytes(p)
                    : new String(Character.toChars(p)).getBytes(StandardCharsets.UTF_8);
            List<Integer> encoding = new ArrayList<>();
            for (byte b : bytes) {
                encoding.add(b & 255);
            }
            return encoding;
        }

        private static byte[] modifiedBytes(int c) {
            try {
                ByteArrayOutputStream written = new ByteArrayOutputStream();
                new DataOutputStream(written).writeUTF(String.valueOf((char) c));
                byte[] bytes = written.toByteArray();
                return java.util.Arrays.copyOfRange(bytes, 2, bytes.length);
            } catch (IOException e) {
                throw new IllegalStateException(e);
            }
        }

        Integer codePoint(List<Integer> bytes) {
            if (bytes.size() < 4) {
                int p = codePoints[bytes.size()][key(bytes)];
                return p == 0 ? null : Integer.valueOf(p - 1);
            }
            int last = bytes.get(3);
            if (!begins(bytes.subList(0, 3)) || last < 128 || last > 191) {
                return null;
            }
            byte[] four = new byte[4];
            for (int i = 0; i < 4; i++) {
                four[i] = (byte) (int) bytes.get(i);
            }
            return new String(four, StandardCharsets.UTF_8).codePointAt(0);
        }

        boolean begins(List<Integer> bytes) {
            return bytes.size() < 4 && beginnings[bytes.size()][key(bytes)];
        }
    }
}
