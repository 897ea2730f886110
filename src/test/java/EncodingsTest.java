import java.nio.charset.Charset;
import java.nio.charset.StandardCharsets;

/** Every code point there and back in the sets that the Java library knows, too. */
public final class EncodingsTest {
    /** A code point needs at most twenty calls, and 512 calls are what an object is made for. */
    private static final int WITH_ONE_OBJECT = 25;
    private static final Charset[] LIBRARY = {StandardCharsets.UTF_8, null, null,
        StandardCharsets.UTF_16BE, StandardCharsets.UTF_16LE};

    public static void main(String[] args) {
        Due due = new Due();
        int[] sets = {0, 3, 4};
        for (int set : sets) {
            int wrong = 0;
            ResumableCoder to = Due.encoder(set);
            ResumableCoder from = Due.decoder(set);
            for (int p = 0; p < 1114112; p++) {
                if (p % WITH_ONE_OBJECT == 0) {
                    to = Due.encoder(set);
                    from = Due.decoder(set);
                }
                boolean surrogate = p >= 55296 && p <= 57343;
                wrong += surrogate || agrees(to, from, p, LIBRARY[set]) ? 0 : 1;
            }
            due.same("code points that set " + set + " turns otherwise", wrong, 0);
        }
        due.end();
    }

    private static boolean agrees(ResumableCoder to, ResumableCoder from, int p, Charset library) {
        String text = new String(Character.toChars(p));
        for (char c : text.toCharArray()) {
            to.give(c);
        }
        if (to.code(false) != 0) {
            return false;
        }
        boolean same = true;
        for (byte b : text.getBytes(library)) {
            int unit = to.fetch();
            same &= unit == (b & 255);
            from.give(unit);
        }
        same &= to.fetch() == -1 && from.code(false) == 0;
        for (char c : text.toCharArray()) {
            same &= from.fetch() == c;
        }
        return same && from.fetch() == -1;
    }
}
