import java.nio.charset.StandardCharsets;
import java.util.NoSuchElementException;

/** What the tests have in common: feeding a text, comparing answers, and the exit code. */
final class Kit {
    /** The longest text, and the most tokens. */
    static final int MAX_TEXT = 65536;
    static final int MAX_TOKENS = 16384;

    private static int wrong = 0;
    private static int asked = 0;
    private static String sentence = "";

    private Kit() {
    }

    /** The sentence of the document that the next answers are due by; wrong answers name it. */
    static void sentence(String words) {
        sentence = words;
    }

    private static void tellWrong(String call, String got, String want) {
        wrong++;
        String by = sentence.isEmpty() ? "" : " by: " + sentence;
        System.out.println(call + " answered " + got + ", due is " + want + by);
    }

    static void due(String call, long got, long want) {
        asked++;
        if (got != want) {
            tellWrong(call, String.valueOf(got), String.valueOf(want));
        }
    }

    static void due(String call, boolean got, boolean want) {
        due(call, got ? 1 : 0, want ? 1 : 0);
    }

    static void dueText(String call, String got, String want) {
        asked++;
        if (!got.equals(want)) {
            tellWrong(call, shown(got), shown(want));
        }
    }

    /** A call that may throw. */
    interface Call {
        long answer();
    }

    static void dueThrow(String call, Call run) {
        asked++;
        try {
            long got = run.answer();
            tellWrong(call, String.valueOf(got), "NoSuchElementException");
        } catch (NoSuchElementException e) {
            // as due
        }
    }

    static void finish() {
        System.out.println(asked - wrong + " of " + asked + " answers are as due");
        if (wrong != 0) {
            System.exit(1);
        }
    }

    /** The characters of the texts in the tests are bytes. */
    static byte[] bytes(String text) {
        return text.getBytes(StandardCharsets.ISO_8859_1);
    }

    /** The text whose bytes are the UTF-8 of what is given. */
    static String utf8(String text) {
        return new String(text.getBytes(StandardCharsets.UTF_8), StandardCharsets.ISO_8859_1);
    }

    /** Feeds twenties and cuts what is too much; near the limit the last twenty must end the text. */
    static void feed(SourceTokens x, String text) {
        int first = x.size() + text.length() > MAX_TEXT - 16 ? text.length() - 20 : text.length();
        feedPart(x, text.substring(0, first));
        feedPart(x, text.substring(first));
    }

    private static void feedPart(SourceTokens x, String text) {
        byte[] all = bytes(text);
        int size = x.size() + all.length;
        for (int at = 0; at < all.length; at += 20) {
            x.feed(four(all, at), four(all, at + 4), four(all, at + 8), four(all, at + 12),
                    four(all, at + 16));
        }
        x.end(size);
    }

    private static int four(byte[] all, int from) {
        int value = 0;
        for (int i = from; i < from + 4; i++) {
            value = value << 8 | (i < all.length ? all[i] & 255 : 0);
        }
        return value;
    }

    static SourceTokens scanned(String text) {
        SourceTokens x = new SourceTokens();
        feed(x, text);
        x.scan();
        return x;
    }

    static int scan(String text) {
        SourceTokens x = new SourceTokens();
        feed(x, text);
        return x.scan();
    }

    /** Asks for scan()'s answer on a new object. */
    static void dueScan(String text, int want) {
        due("scan() of " + shown(text), scan(text), want);
    }

    /** Each text has its error at the place, and so it has, whatever comes behind. */
    static void dueError(int place, String... texts) {
        for (String text : texts) {
            dueRefused(text, place);
            if (place < text.length()) {
                dueRefused(text.substring(0, place + 1), place);
                dueRefused(text + "\"'`*/\n}", place);
            }
        }
    }

    private static void dueRefused(String text, int place) {
        SourceTokens x = new SourceTokens();
        feed(x, "t u");
        x.scan();
        feed(x, text);
        due("scan() of " + shown(text), x.scan(), -1 - place);
        due("count() after it", x.count(), 0);
        due("names() after it", x.names(), 0);
        due("size() after it", x.size(), 0);
    }

    /** What byteOf() tells of token k. */
    static String value(SourceTokens x, int k) {
        StringBuilder value = new StringBuilder();
        for (int i = 0; i < x.token(k, 8); i++) {
            value.append((char) x.byteOf(k, i));
        }
        return value.toString();
    }

    /** One fact of all tokens, with blanks between. */
    static String facts(SourceTokens x, int what) {
        StringBuilder all = new StringBuilder();
        for (int k = 0; k < x.count(); k++) {
            all.append(k == 0 ? "" : " ").append(x.token(k, what));
        }
        return all.toString();
    }

    /** Asks for one fact of all tokens of the text. */
    static void dueFacts(String text, int what, String want) {
        dueText("token(.., " + what + ") of " + shown(text), facts(scanned(text), what), want);
    }

    static String shown(String text) {
        StringBuilder shown = new StringBuilder("\"");
        for (char c : (text.length() > 90 ? text.substring(0, 90) : text).toCharArray()) {
            shown.append(c < 32 || c > 126 ? String.format("\\x%02x", (int) c) : String.valueOf(c));
        }
        return shown.append(text.length() > 90 ? "\" .. " + text.length() : "\"").toString();
    }
}
