import java.util.Arrays;

/**
 * Turns bytes into characters and characters into bytes for seven character sets, in pieces of
 * any size: what is not complete waits, what does not fit is put later, and what is faulty is
 * reported, passed over or replaced.
 */
public final class ResumableCoder {

    private static final int SETS = 7;
    private static final int ACTIONS = 3;
    private static final int MOST_WAITING = 24;
    private static final int MOST_ROOM = 16;

    private static final int BYTES = 256;
    private static final int CHARACTERS = 65536;

    private static final int NO_CODER = -1;
    private static final int FRESH = 0;
    private static final int CODING = 1;
    private static final int ENDED = 2;
    private static final int FLUSHED = 3;

    private static final int REPORT = 0;
    private static final int REPLACE = 2;

    private static final int REFUSED = -1;
    private static final int UNDERFLOW = 0;
    private static final int OVERFLOW = 1;
    private static final int BAD_ANSWER = 16;
    private static final int UNKNOWN_ANSWER = 32;
    /** No answer of code: the coder has still to look at what waits now. */
    private static final int GOES_ON = -2;

    /** Every move but the byte order mark takes a unit, and the last look finds none. */
    private static final int MOST_LOOKS = MOST_WAITING + 2;

    private static final int DECODING_REPLACEMENT = 65533;

    private final Page page = new Page();
    private final Form[] forms;
    private final Units input = new Units(MOST_WAITING);
    private final Units output = new Units(MOST_ROOM);
    private final Move move = new Move();

    private Form form;
    private int phase = NO_CODER;
    private boolean encoding;
    private int badAction;
    private int unknownAction;
    private int roomNow = MOST_ROOM;
    private int takenCount;
    private int putCount;
    private int faultCount;
    /** The length of the fault that code has just reported, 0 when pass would be refused. */
    private int reported;

    public ResumableCoder() {
        forms = new Form[] {
            new Utf8(false), new Utf8(true),
            new Utf16(true, false), new Utf16(false, false), new Utf16(false, true),
            new Utf7(), page
        };
        form = page;
    }

    public boolean open(int set, boolean encode, int bad, int unknown) {
        if (!isBelow(set, SETS) || !isBelow(bad, ACTIONS) || !isBelow(unknown, ACTIONS)) {
            return false;
        }
        form = forms[set];
        encoding = encode;
        badAction = bad;
        unknownAction = unknown;
        input.clear();
        output.clear();
        takenCount = 0;
        putCount = 0;
        faultCount = 0;
        startAfresh();
        return true;
    }

    public boolean map(int b, int c) {
        if (b < 128 || b >= BYTES || c < -1 || c >= CHARACTERS) {
            return false;
        }
        page.assign(b, c);
        reported = 0;
        return true;
    }

    public boolean give(int unit) {
        if (phase == NO_CODER || input.count() == MOST_WAITING) {
            return false;
        }
        if (!isBelow(unit, encoding ? CHARACTERS : BYTES)) {
            return false;
        }
        input.add(unit);
        reported = 0;
        return true;
    }

    public boolean room(int n) {
        if (n < 0 || n > MOST_ROOM) {
            return false;
        }
        roomNow = n;
        return true;
    }

    public int code(boolean ends) {
        if (phase == NO_CODER || phase == FLUSHED || (phase == ENDED && !ends)) {
            return REFUSED;
        }
        phase = ends ? ENDED : CODING;
        reported = 0;
        return makeMoves(ends);
    }

    public int flush() {
        if (phase != ENDED && phase != FLUSHED) {
            return REFUSED;
        }
        if (encoding && form.finish(move) && makeStep() == OVERFLOW) {
            return OVERFLOW;
        }
        phase = FLUSHED;
        return UNDERFLOW;
    }

    public boolean reset() {
        if (phase == NO_CODER) {
            return false;
        }
        startAfresh();
        return true;
    }

    public boolean pass() {
        if (reported == 0) {
            return false;
        }
        passOver(reported);
        reported = 0;
        return true;
    }

    public int fetch() {
        int unit = output.at(0);
        output.drop(1);
        return unit;
    }

    public int state() {
        return phase;
    }

    public int waiting() {
        return input.count();
    }

    public int ready() {
        return output.count();
    }

    public int taken() {
        return takenCount;
    }

    public int put() {
        return putCount;
    }

    public int faults() {
        return faultCount;
    }

    private static boolean isBelow(int n, int bound) {
        return n >= 0 && n < bound;
    }

    private void startAfresh() {
        phase = FRESH;
        reported = 0;
        form.begin();
    }

    private int makeMoves(boolean ends) {
        for (int looks = 0; looks < MOST_LOOKS; looks++) {
            look();
            if (move.kind == Move.NEED) {
                if (!ends || input.count() == 0) {
                    return UNDERFLOW;
                }
                move.setBad(input.count());
            }
            int answer = move.kind == Move.STEP ? makeStep() : meetFault();
            if (answer != GOES_ON) {
                return answer;
            }
        }
        return UNDERFLOW;
    }

    private void look() {
        if (input.count() == 0) {
            move.setNeed();
        } else if (encoding) {
            form.encode(input, move);
        } else {
            form.decode(input, move);
        }
    }

    private int makeStep() {
        if (!fits()) {
            return OVERFLOW;
        }
        takeUnits(move.takes);
        putUnits();
        form.stepMade();
        return GOES_ON;
    }

    private int meetFault() {
        boolean bad = move.kind == Move.BAD;
        int action = bad ? badAction : unknownAction;
        if (action == REPORT) {
            reported = move.takes;
            return (bad ? BAD_ANSWER : UNKNOWN_ANSWER) + move.takes;
        }
        if (action == REPLACE) {
            addReplacement();
            if (!fits()) {
                return OVERFLOW;
            }
            putUnits();
        }
        passOver(move.takes);
        return GOES_ON;
    }

    private void addReplacement() {
        if (encoding) {
            form.addReplacement(move);
        } else {
            move.add(DECODING_REPLACEMENT);
        }
    }

    /** More than the room may be ready already: what puts nothing fits even then. */
    private boolean fits() {
        return move.puts == 0 || output.count() + move.puts <= roomNow;
    }

    private void takeUnits(int n) {
        input.drop(n);
        takenCount += n;
    }

    private void putUnits() {
        for (int i = 0; i < move.puts; i++) {
            output.add(move.unitAt(i));
        }
        putCount += move.puts;
    }

    private void passOver(int n) {
        takeUnits(n);
        faultCount++;
        form.passedOver();
    }

    /** Units in a row, the one that came first in front. */
    private static final class Units {
        private final int[] row;
        private int size;

        Units(int most) {
            row = new int[most];
        }

        int count() {
            return size;
        }

        /** The unit that i others stand before, -1 when there is none. */
        int at(int i) {
            return i >= 0 && i < size ? row[i] : -1;
        }

        void add(int unit) {
            if (size < row.length) {
                row[size] = unit;
                size++;
            }
        }

        void drop(int n) {
            int gone = Math.max(0, Math.min(n, size));
            System.arraycopy(row, gone, row, 0, size - gone);
            size -= gone;
        }

        void clear() {
            size = 0;
        }
    }

    /** What the coder found at the front of the waiting units, and what it would put for it. */
    private static final class Move {
        private static final int NEED = 0;
        private static final int STEP = 1;
        private static final int BAD = 2;
        private static final int UNKNOWN = 3;

        /** No step and no replacement puts more. */
        private static final int MOST_PUT = 4;

        private final int[] units = new int[MOST_PUT];
        private int kind;
        private int takes;
        private int puts;

        void setNeed() {
            set(NEED, 0);
        }

        void setStep(int n) {
            set(STEP, n);
        }

        void setBad(int n) {
            set(BAD, n);
        }

        void setUnknown(int n) {
            set(UNKNOWN, n);
        }

        void add(int unit) {
            if (puts < MOST_PUT) {
                units[puts] = unit;
                puts++;
            }
        }

        int unitAt(int i) {
            return i >= 0 && i < puts ? units[i] : -1;
        }

        private void set(int newKind, int n) {
            kind = newKind;
            takes = n;
            puts = 0;
        }
    }

    /** The kinds of characters, and the code points that pairs of them stand for. */
    private static final class Surrogates {
        private static final int FIRST_HIGH = 55296;
        private static final int FIRST_LOW = 56320;
        private static final int LAST_LOW = 57343;
        private static final int FIRST_BY_PAIR = 65536;

        static boolean isHigh(int c) {
            return c >= FIRST_HIGH && c < FIRST_LOW;
        }

        static boolean isLow(int c) {
            return c >= FIRST_LOW && c <= LAST_LOW;
        }

        static boolean isEither(int c) {
            return c >= FIRST_HIGH && c <= LAST_LOW;
        }

        static boolean isPair(int first, int second) {
            return isHigh(first) && isLow(second);
        }

        static int codePoint(int high, int low) {
            return FIRST_BY_PAIR + (high - FIRST_HIGH) * 1024 + (low - FIRST_LOW);
        }

        static void addCharacters(int codePoint, Move move) {
            if (codePoint < FIRST_BY_PAIR) {
                move.add(codePoint);
            } else {
                move.add(FIRST_HIGH + (codePoint - FIRST_BY_PAIR) / 1024);
                move.add(FIRST_LOW + (codePoint - FIRST_BY_PAIR) % 1024);
            }
        }

        static void setForUnpaired(Units in, Move move) {
            if (in.count() == 1 && isHigh(in.at(0))) {
                move.setNeed();
            } else {
                move.setBad(1);
            }
        }
    }

    /**
     * One of the seven sets. encode and decode look at the units that wait, of which there is one
     * at least, and change nothing that lasts: whether the move is made is found only afterwards.
     */
    private abstract static class Form {
        abstract void encode(Units in, Move move);

        abstract void decode(Units in, Move move);

        /** The coder was opened or reset. */
        void begin() {
        }

        /** The step that was looked at last has been made. */
        void stepMade() {
        }

        /** A fault has been passed over. */
        void passedOver() {
        }

        /** Looks at what an encoder has to put at its end; false when that is nothing. */
        boolean finish(Move move) {
            return false;
        }

        /** Adds what an encoder puts in place of a fault. */
        void addReplacement(Move move) {
            move.add('?');
        }
    }

    /** UTF-8, and the modified one. */
    private static final class Utf8 extends Form {
        private final boolean modified;

        Utf8(boolean modified) {
            this.modified = modified;
        }

        void encode(Units in, Move move) {
            int c = in.at(0);
            if (modified || !Surrogates.isEither(c)) {
                move.setStep(1);
                addEncoding(c, move);
            } else if (Surrogates.isPair(c, in.at(1))) {
                move.setStep(2);
                addEncoding(Surrogates.codePoint(c, in.at(1)), move);
            } else {
                Surrogates.setForUnpaired(in, move);
            }
        }

        void decode(Units in, Move move) {
            int length = lengthBehind(in.at(0));
            int fitting = countFitting(in, length);
            if (length > 0 && fitting == length) {
                move.setStep(length);
                Surrogates.addCharacters(codePointOf(in, length), move);
            } else if (fitting == in.count()) {
                move.setNeed();
            } else {
                move.setBad(Math.max(1, fitting));
            }
        }

        private void addEncoding(int p, Move move) {
            if (p < 128 && !(modified && p == 0)) {
                move.add(p);
            } else if (p < 2048) {
                move.add(192 + p / 64);
                addLast(p, 1, move);
            } else if (p < 65536) {
                move.add(224 + p / 4096);
                addLast(p, 2, move);
            } else {
                move.add(240 + p / 262144);
                addLast(p, 3, move);
            }
        }

        private static void addLast(int p, int n, Move move) {
            for (int i = n - 1; i >= 0; i--) {
                move.add(128 + ((p >> (6 * i)) & 63));
            }
        }

        /** How long the encodings are that begin with this byte, 0 when none does. */
        private int lengthBehind(int first) {
            if (first < 128) {
                return modified && first == 0 ? 0 : 1;
            }
            if (first < 194) {
                return modified && first == 192 ? 2 : 0;
            }
            if (first < 224) {
                return 2;
            }
            if (first < 240) {
                return 3;
            }
            return !modified && first < 245 ? 4 : 0;
        }

        /** How many of the first units are at most together the beginning of an encoding. */
        private int countFitting(Units in, int length) {
            int most = Math.min(length, in.count());
            int n = Math.min(1, most);
            while (n > 0 && n < most && isNext(in, n)) {
                n++;
            }
            return n;
        }

        private boolean isNext(Units in, int i) {
            int unit = in.at(i);
            if (i > 1) {
                return unit >= 128 && unit <= 191;
            }
            return unit >= leastSecond(in.at(0)) && unit <= greatestSecond(in.at(0));
        }

        /** Less would stand for a code point that has a shorter encoding. */
        private static int leastSecond(int first) {
            return first == 224 ? 160 : first == 240 ? 144 : 128;
        }

        /** More would stand for a surrogate, a code point too great, or one with a shorter encoding. */
        private int greatestSecond(int first) {
            if (first == 192) {
                return 128;
            }
            if (first == 237 && !modified) {
                return 159;
            }
            return first == 244 ? 143 : 191;
        }

        private static int codePointOf(Units in, int length) {
            int first = in.at(0);
            int p = length == 1 ? first
                    : length == 2 ? first - 192
                    : length == 3 ? first - 224
                    : first - 240;
            for (int i = 1; i < length; i++) {
                p = p * 64 + in.at(i) - 128;
            }
            return p;
        }
    }

    /** UTF-16, with a byte order mark or in a fixed order. */
    private static final class Utf16 extends Form {
        private final boolean marked;
        private final boolean little;

        private boolean first = true;
        private boolean highLast;
        private boolean nextHighLast;

        Utf16(boolean marked, boolean little) {
            this.marked = marked;
            this.little = little;
        }

        void begin() {
            first = true;
            highLast = little;
            nextHighLast = little;
        }

        /**
         * What "has taken nothing" and "has put nothing" ask for is the same here: every step of
         * a decoder takes something, and an encoder puts its mark before all else.
         */
        void stepMade() {
            first = false;
            highLast = nextHighLast;
        }

        void passedOver() {
            first = false;
        }

        void encode(Units in, Move move) {
            int c = in.at(0);
            if (marked && first) {
                move.setStep(0);
                move.add(254);
                move.add(255);
            } else if (!Surrogates.isEither(c)) {
                move.setStep(1);
                addBytes(c, move);
            } else if (Surrogates.isPair(c, in.at(1))) {
                move.setStep(2);
                addBytes(c, move);
                addBytes(in.at(1), move);
            } else {
                Surrogates.setForUnpaired(in, move);
            }
        }

        void addReplacement(Move move) {
            addBytes('?', move);
        }

        void decode(Units in, Move move) {
            nextHighLast = highLast;
            if (in.count() < 2) {
                move.setNeed();
            } else if (marked && first && isMark(in.at(0), in.at(1))) {
                move.setStep(2);
                nextHighLast = in.at(0) == 255;
            } else {
                decodeCharacter(in, move);
            }
        }

        private static boolean isMark(int b, int c) {
            return (b == 254 && c == 255) || (b == 255 && c == 254);
        }

        private void decodeCharacter(Units in, Move move) {
            int x = characterAt(in, 0);
            if (!Surrogates.isEither(x)) {
                move.setStep(2);
                move.add(x);
            } else if (Surrogates.isLow(x)) {
                move.setBad(2);
            } else if (in.count() < 4) {
                move.setNeed();
            } else if (Surrogates.isLow(characterAt(in, 2))) {
                move.setStep(4);
                move.add(x);
                move.add(characterAt(in, 2));
            } else {
                move.setBad(2);
            }
        }

        private int characterAt(Units in, int i) {
            int b = in.at(i);
            int c = in.at(i + 1);
            return highLast ? c * 256 + b : b * 256 + c;
        }

        private void addBytes(int c, Move move) {
            move.add(highLast ? c % 256 : c / 256);
            move.add(highLast ? c / 256 : c % 256);
        }
    }

    /** UTF-7. */
    private static final class Utf7 extends Form {
        private static final String SIGNS =
                "ABCDEFGHIJKLMNOPQRSTUVWXYZabcdefghijklmnopqrstuvwxyz0123456789+/";
        private static final int LETTERS_AND_DIGITS = 62;
        private static final String OTHER_DIRECT = "\t\n\r '(),-./:?";

        private final Shift now = new Shift();
        private final Shift next = new Shift();

        void begin() {
            now.becomePlain();
        }

        void stepMade() {
            now.copy(next);
        }

        void passedOver() {
            now.becomePlain();
        }

        void encode(Units in, Move move) {
            int c = in.at(0);
            next.copy(now);
            move.setStep(1);
            if (isDirect(c)) {
                if (now.shifted) {
                    leaveShift(move);
                }
                move.add(c);
            } else if (!now.shifted && c == '+') {
                move.add('+');
                move.add('-');
            } else {
                encodeShifted(c, move);
            }
        }

        boolean finish(Move move) {
            if (!now.shifted) {
                return false;
            }
            move.setStep(0);
            leaveShift(move);
            return true;
        }

        private void encodeShifted(int c, Move move) {
            if (!now.shifted) {
                move.add('+');
                next.becomeShifted();
            }
            next.keep(c, 16);
            for (int signs = next.kept / 6; signs > 0; signs--) {
                move.add(SIGNS.charAt(next.removeFirst(6) & 63));
            }
        }

        private void leaveShift(Move move) {
            if (now.kept > 0) {
                move.add(SIGNS.charAt((now.bits << (6 - now.kept)) & 63));
            }
            move.add('-');
            next.becomePlain();
        }

        void decode(Units in, Move move) {
            int b = in.at(0);
            next.copy(now);
            if (b >= 128) {
                move.setBad(1);
            } else if (!now.shifted) {
                decodePlain(b, move);
            } else if (valueOf(b) >= 0) {
                decodeSign(valueOf(b), move);
            } else {
                decodeEnd(b, move);
            }
        }

        private void decodePlain(int b, Move move) {
            move.setStep(1);
            if (b == '+') {
                next.becomeShifted();
            } else {
                move.add(b);
            }
        }

        private void decodeSign(int value, Move move) {
            move.setStep(1);
            next.keep(value, 6);
            if (next.kept >= 16) {
                move.add(next.removeFirst(16));
            }
        }

        private void decodeEnd(int b, Move move) {
            boolean minus = b == '-';
            if (now.holdsRemains() || (now.justBegun && !minus)) {
                move.setBad(1);
                return;
            }
            move.setStep(1);
            next.becomePlain();
            if (!minus) {
                move.add(b);
            } else if (now.justBegun) {
                move.add('+');
            }
        }

        private static boolean isDirect(int c) {
            int value = valueOf(c);
            return (value >= 0 && value < LETTERS_AND_DIGITS)
                    || (c < 128 && OTHER_DIRECT.indexOf((char) c) >= 0);
        }

        /** The six bits that a sign stands for, -1 for what is no sign. */
        private static int valueOf(int unit) {
            return unit < 128 ? SIGNS.indexOf((char) unit) : -1;
        }
    }

    /** Whether a coder of UTF-7 is shifted, and the bits that it keeps then. */
    private static final class Shift {
        private boolean shifted;
        private boolean justBegun;
        private int bits;
        private int kept;

        void becomePlain() {
            shifted = false;
            justBegun = false;
            bits = 0;
            kept = 0;
        }

        void becomeShifted() {
            becomePlain();
            shifted = true;
            justBegun = true;
        }

        void copy(Shift other) {
            shifted = other.shifted;
            justBegun = other.justBegun;
            bits = other.bits;
            kept = other.kept;
        }

        void keep(int newBits, int n) {
            bits = (bits << n) | newBits;
            kept += n;
            justBegun = false;
        }

        int removeFirst(int n) {
            kept = Math.max(0, kept - n);
            int removed = bits >> kept;
            bits = bits & ((1 << kept) - 1);
            return removed;
        }

        /** Bits that no encoder would have left behind a whole character. */
        boolean holdsRemains() {
            return kept >= 6 || bits != 0;
        }
    }

    /** A page of 256 bytes, of which the upper half can be given characters. */
    private static final class Page extends Form {
        private static final int FIXED = 128;

        private final int[] characters = new int[BYTES - FIXED];

        Page() {
            Arrays.fill(characters, -1);
        }

        void assign(int b, int c) {
            if (b >= FIXED && b < BYTES) {
                characters[b - FIXED] = c;
            }
        }

        void encode(Units in, Move move) {
            int c = in.at(0);
            int b = leastByteOf(c);
            if (b >= 0) {
                move.setStep(1);
                move.add(b);
            } else if (Surrogates.isPair(c, in.at(1))) {
                move.setUnknown(2);
            } else if (Surrogates.isEither(c)) {
                Surrogates.setForUnpaired(in, move);
            } else {
                move.setUnknown(1);
            }
        }

        void decode(Units in, Move move) {
            int c = characterOf(in.at(0));
            if (c >= 0) {
                move.setStep(1);
                move.add(c);
            } else {
                move.setUnknown(1);
            }
        }

        private int characterOf(int b) {
            if (b < FIXED) {
                return b;
            }
            return b < BYTES ? characters[b - FIXED] : -1;
        }

        private int leastByteOf(int c) {
            if (c < FIXED) {
                return c;
            }
            for (int i = 0; i < characters.length; i++) {
                if (characters[i] == c) {
                    return FIXED + i;
                }
            }
            return -1;
        }
    }
}
