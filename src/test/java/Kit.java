import java.nio.charset.StandardCharsets;
import java.util.NoSuchElementException;

/** What the tests have in common: feeding a text, comparing answers, and the exit code. */
final class Kit {
    private static int wrong = 0;
    private static int asked = 0;

    private Kit() {
    }

    static void due(String call, long got, long want) {
        asked++;
        if (got != want) {
            wrong++;
            System.out.println(call + " answered " + got + ", due is " + want);
        }
    }

    static void due(String call, boolean got, boolean want) {
        due(call, got ? 1 : 0, want ? 1 : 0);
    }

    static void dueText(String call, String got, String want) {
        asked++;
        if (!got.equals(want)) {
            wrong++;
            System.out.println(call + " answered " + shown(got) + ", due is " + shown(want));
        }
    }

    /** A call that may throw. */
    interface Call {
        long answer();
    }

    static void dueThrow(String call, Call run) {
        asked++;
        try {
            long got = run.answer();
            wrong++;
            System.out.println(call + " answered " + got + ", due is NoSuchElementException");
        } catch (NoSuchElementException e) {
            // as due
        }
    }

    static void finish() {
        System.out.println(asked - wrong + " of " + asked + " answers are as due");
        if (wrong != 0) {
            System.exit(1);
        }
    }

    /** The characters of the texts in the tests are bytes. */
    static byte[] bytes(String text) {
        return text.getBytes(StandardCharsets.ISO_8859_1);
    }

    /** The text whose bytes are the UTF-8 of what is given. */
    static String utf8(String text) {
        return new String(text.getBytes(StandardCharsets.UTF_8), StandardCharsets.ISO_8859_1);
    }

    static void feed(SourceTokens x, String text) {
        byte[] all = bytes(text);
        int size = x.size() + all.length;
        for (int at = 0; at < all.length; at += 20) {
            x.feed(four(all, at), four(all, at + 4), four(all, at + 8), four(all, at + 12),
                    four(all, at + 16));
        }
        x.end(size);
    }

    private static int four(byte[] all, int from) {
        int value = 0;
        for (int i = from; i < from + 4; i++) {
            value = value << 8 | (i < all.length ? all[i] & 255 : 0);
        }
        return value;
    }

    static SourceTokens scanned(String text) {
        SourceTokens x = new SourceTokens();
        feed(x, text);
        x.scan();
        return x;
    }

    static int scan(String text) {
        SourceTokens x = new SourceTokens();
        feed(x, text);
        return x.scan();
    }

    /** Asks for scan()'s answer on a new object. */
    static void dueScan(String text, int want) {
        due("scan() of " + shown(text), scan(text), want);
    }

    /** What byteOf() tells of token k. */
    static String value(SourceTokens x, int k) {
        StringBuilder value = new StringBuilder();
        for (int i = 0; i < x.token(k, 8); i++) {
            value.append((char) x.byteOf(k, i));
        }
        return value.toString();
    }

    /** One fact of all tokens, with blanks between. */
    static String facts(SourceTokens x, int what) {
        StringBuilder all = new StringBuilder();
        for (int k = 0; k < x.count(); k++) {
            all.append(k == 0 ? "" : " ").append(x.token(k, what));
        }
        return all.toString();
    }

    static String shown(String text) {
        StringBuilder shown = new StringBuilder("\"");
        for (char c : (text.length() > 90 ? text.substring(0, 90) : text).toCharArray()) {
            shown.append(c < 32 || c > 126 ? String.format("\\x%02x", (int) c) : String.valueOf(c));
        }
        return shown.append(text.length() > 90 ? "\" .. " + text.length() : "\"").toString();
    }
}
