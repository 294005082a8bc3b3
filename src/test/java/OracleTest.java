import java.math.BigInteger;
import java.nio.charset.StandardCharsets;
import java.util.ArrayList;
import java.util.LinkedHashMap;
import java.util.List;
import java.util.Map;
import java.util.Random;
import java.util.regex.Matcher;
import java.util.regex.Pattern;

/**
 * All promises, on texts by chance: the tokens are found a second time with patterns, and an error
 * is looked for as the document says it, by trying what could come behind the first bytes.
 */
public final class OracleTest {
    private static final String WORDS = "break case chan const continue default defer else fallthrough for func go goto"
            + " if import interface map package range return select struct switch type var";
    private static final String SIGNS = "+ - * / % & | ^ << >> &^ += -= *= /= %= &= |= ^= <<= >>= &^= && || <- ++ -- =="
            + " < > = ! ~ != <= >= := ... ( ) [ ] { } , ; . :";
    private static final List<String> ENDING_WORDS = List.of("break", "continue", "fallthrough", "return");
    private static final List<String> ENDING_SIGNS = List.of("++", "--", ")", "]", "}");

    private static final String TAIL = "[\\x80-\\xbf]";
    private static final String UTF8 = "(?:[\\x01-\\x7f]|[\\xc2-\\xdf]" + TAIL + "|\\xe0[\\xa0-\\xbf]" + TAIL
            + "|[\\xe1-\\xec\\xee\\xef]" + TAIL + "{2}|\\xed[\\x80-\\x9f]" + TAIL + "|\\xf0[\\x90-\\xbf]" + TAIL
            + "{2}|[\\xf1-\\xf3]" + TAIL + "{3}|\\xf4[\\x80-\\x8f]" + TAIL + "{2})";
    private static final String HEX = "[0-9a-fA-F]";
    private static final String ESCAPE = "\\\\(?:[abfnrtv\\\\]|[0-3][0-7]{2}|x" + HEX + "{2}|u(?![dD][89a-fA-F])" + HEX
            + "{4}|U(?!0000[dD][89a-fA-F])00(?:0" + HEX + "|10)" + HEX + "{4})";
    private static final String DIGITS = "[0-9](?:_?[0-9])*";
    private static final String EXPONENT = "[eE][+-]?" + DIGITS;

    private static final Pattern BLANKS = Pattern.compile("[ \\t\\r]+");
    private static final Pattern LINE_COMMENT = Pattern.compile("//(?:(?!\\n)" + UTF8 + ")*+");
    private static final Pattern LONG_COMMENT = Pattern.compile("/\\*(?:(?!\\*/)" + UTF8 + ")*+\\*/");
    private static final Pattern NAME = Pattern.compile("[A-Za-z_][A-Za-z0-9_]*");
    private static final Pattern CHARACTER = Pattern.compile("\\\\['\"]|" + ESCAPE + "|" + UTF8);
    private static final Map<Pattern, Integer> BASES = new LinkedHashMap<>();
    private static final Map<Pattern, Integer> QUOTED = new LinkedHashMap<>();

    static {
        BASES.put(Pattern.compile("0"), 10);
        BASES.put(Pattern.compile("[1-9](?:_?[0-9])*"), 10);
        BASES.put(Pattern.compile("0(?:_?[0-7])+"), 8);
        BASES.put(Pattern.compile("0[bB](?:_?[01])+"), 2);
        BASES.put(Pattern.compile("0[oO](?:_?[0-7])+"), 8);
        BASES.put(Pattern.compile("0[xX](?:_?" + HEX + ")+"), 16);
        BASES.put(Pattern.compile(DIGITS + "\\.(?:" + DIGITS + ")?(?:" + EXPONENT + ")?"), 0);
        BASES.put(Pattern.compile(DIGITS + EXPONENT), 0);
        BASES.put(Pattern.compile("\\." + DIGITS + "(?:" + EXPONENT + ")?"), 0);
        QUOTED.put(Pattern.compile("'(?:\\\\'|" + ESCAPE + "|(?![\\n\\\\'])" + UTF8 + ")'"), 4);
        QUOTED.put(Pattern.compile("\"(?:\\\\\"|" + ESCAPE + "|(?![\\n\\\\\"])" + UTF8 + ")*\""), 5);
        QUOTED.put(Pattern.compile("`(?:(?!`)" + UTF8 + ")*`"), 5);
    }

    /** What could come behind the first bytes of a fine text, if something must. */
    private static final List<String> COMPLETIONS = new ArrayList<>();

    static {
        String[] middles = {"", "0", "00", "000", "0000", "00000", "000000", "0000000", "00000000", "a", "n", "x00", "\u0080",
            "\u0080\u0080", "\u0080\u0080\u0080", "\u00a0\u0080", "\u0090\u0080\u0080"};
        for (String middle : middles) {
            for (String close : new String[] {"", "'", "\"", "`", "*/", "/", "."}) {
                COMPLETIONS.add(middle + close);
            }
        }
    }

    private static final String[] PIECES = {" ", " ", " ", "\n", "\n", "\t", "\r", "a", "b", "_", "ab", "e", "x", "if", "for",
        "return", "break", "returns", "go", "goto", "0", "1", "8", "9", "07", "08", "0x", "0X1f", "0b", "0b1", "0o", "0o7", "_",
        "1_0", "1e", "1e5", "e+", ".", ".", "..", "...", "1.", ".5", "'", "'", "\"", "\"", "`", "`", "\\", "\\n", "\\'", "\\\"",
        "\\x4", "\\x41", "\\101", "\\3", "\\4", "\\u", "\\u00e9", "\\ud7", "\\ud8", "\\U0010", "\\U0010ffff", "\\U00110000",
        "\u00c3\u00a9", "\u00c3", "\u00e2\u0082\u00ac", "\u00e2\u0082", "\u00ed\u00a0", "\u00f0\u009f\u0098\u0080", "\u00f4\u0090",
        "\u0080", "\0", "\f", "#", "//", "//", "/*", "/*", "*/", "*/", "/", "*", "+", "++", "-", "--", "<", "<<", "=", "&", "^",
        "&^", "!", "~", ":", ";", ",", "(", ")", "[", "]", "{", "}", "|", ">", "%", "'a'", "\"s\"", "`r`", "'\\''", "\"\\u20ac\"",
        "`\r\n`", "// c\n", "/* c */", "/*\n*/", "1_000", "0x_F_f", "0_7", "18446744073709551617", "1.5e-3", "x1", "y"};

    public static void main(String[] args) {
        Random random = new Random(20261115);
        for (int n = 0; n < 12000; n++) {
            SourceTokens x = new SourceTokens();
            check(x, textByChance(random));
            check(x, textByChance(random));
        }
        everyByteInEveryPlace();
        Kit.finish();
    }

    private static String textByChance(Random random) {
        StringBuilder text = new StringBuilder();
        int pieces = random.nextInt(10);
        for (int n = 0; n < pieces; n++) {
            text.append(PIECES[random.nextInt(PIECES.length)]);
            if (random.nextInt(3) == 0) {
                text.append(' ');
            }
        }
        if (random.nextInt(8) == 0 && text.length() > 0) {
            text.setCharAt(random.nextInt(text.length()), (char) random.nextInt(256));
        }
        return text.toString();
    }

    private static void everyByteInEveryPlace() {
        String[] starts = {"", "a", "0", "1", "08", "0_", "0b", "0b1", "0o", "0o1", "0x", "0x_", "0x1", "1_", "1.", "1.5", "1e", "1e+",
            "1e1", ".", "..", ".5", "'", "'a", "'\\", "'\\0", "'\\07", "'\\x", "'\\x0", "'\\u", "'\\ud", "'\\u000", "'\\U", "'\\U0",
            "'\\U00", "'\\U001", "'\\U0000", "'\\U0000d", "'\u00e2", "'\u00e0", "'\u00ed", "'\u00f0", "'\u00f4", "'\u00f4\u0080", "\"",
            "\"\\", "\"\\3", "\"\\ud", "`", "`\u00c2", "/", "//", "/*", "/**", "// \u00e0", "/* \u00f4", "+", "-", "*", "&", "&^",
            "<", "<<", ">", ">>", "=", "!", ":", "|", "^", "%", "~"};
        for (String start : starts) {
            for (int value = 0; value < 256; value++) {
                check(new SourceTokens(), start + (char) value);
            }
        }
    }

    /** What the document says of one token. */
    private static final class Token {
        int kind;
        int place;
        int length;
        boolean isPutIn;
        int base;
        String text = "";
        String bytes = "";
        long rune;
    }

    private static void check(SourceTokens x, String text) {
        List<Token> tokens = tokensOf(text);
        Kit.feed(x, text);
        int got = x.scan();
        String shown = " of " + Kit.shown(text);
        if (tokens == null) {
            Kit.due("scan()" + shown, got, -1 - errorPlace(text));
            Kit.due("count()" + shown, x.count(), 0);
            Kit.due("names()" + shown, x.names(), 0);
            return;
        }
        Kit.due("scan()" + shown, got, tokens.size());
        Kit.due("count()" + shown, x.count(), tokens.size());
        if (got != tokens.size()) {
            return;
        }
        List<String> names = new ArrayList<>();
        for (int k = 0; k < tokens.size(); k++) {
            Token t = tokens.get(k);
            String call = "token(" + k + ", ";
            if (t.kind == 1 && !names.contains(t.text)) {
                names.add(t.text);
                Kit.due("firstOf(" + (names.size() - 1) + ")" + shown, x.firstOf(names.size() - 1), k);
            }
            int lineStart = text.lastIndexOf('\n', t.place - 1) + 1;
            int line = (int) text.substring(0, t.place).chars().filter(c -> c == '\n').count() + 1;
            int[] want = {t.kind, t.place, line, (t.place == 0 ? 0 : t.place - lineStart) + 1, t.length, t.isPutIn ? 1 : 0,
                t.kind == 1 ? names.indexOf(t.text) : -1, t.base, t.bytes.length()};
            for (int what = 0; what < want.length; what++) {
                Kit.due(call + what + ")" + shown, x.token(k, what), want[what]);
            }
            Kit.dueText("the bytes of token " + k + shown, Kit.value(x, k), t.bytes);
            checkNumber(x, k, t, shown);
        }
        Kit.due("names()" + shown, x.names(), names.size());
        Kit.due("firstOf(" + names.size() + ")" + shown, x.firstOf(names.size()), -1);
    }

    private static void checkNumber(SourceTokens x, int k, Token t, String shown) {
        if (t.kind == 4) {
            Kit.due("number(" + k + ")" + shown, x.number(k), t.rune);
        } else if (t.kind == 2) {
            String digits = t.bytes.replaceAll("^0[bBoOxX]", "");
            BigInteger value = new BigInteger(digits, t.base);
            Kit.due("number(" + k + ")" + shown, x.number(k), value.longValue());
            for (int bits = 0; bits < 80; bits++) {
                Kit.due("fits(" + k + ", " + bits + ")" + shown, x.fits(k, bits), value.bitLength() <= bits);
            }
        } else {
            Kit.dueThrow("number(" + k + ")" + shown, () -> x.number(k));
            Kit.dueThrow("fits(" + k + ", 9)" + shown, () -> x.fits(k, 9) ? 1 : 0);
        }
    }

    /** The first byte behind which nothing helps any more, or the end. */
    private static int errorPlace(String text) {
        int fine = 0;
        int bad = text.length() + 1;
        while (bad - fine > 1) {
            int middle = (fine + bad) / 2;
            if (canBecomeFine(text.substring(0, middle))) {
                fine = middle;
            } else {
                bad = middle;
            }
        }
        return fine;
    }

    private static boolean canBecomeFine(String start) {
        for (String completion : COMPLETIONS) {
            if (tokensOf(start + completion) != null) {
                return true;
            }
        }
        return false;
    }

    /** The tokens, null when there is an error. */
    private static List<Token> tokensOf(String text) {
        List<Token> tokens = new ArrayList<>();
        boolean mayEnd = false;
        int at = 0;
        while (at < text.length()) {
            int blanks = lengthOf(BLANKS, text, at);
            int line = lengthOf(LINE_COMMENT, text, at);
            int comment = lengthOf(LONG_COMMENT, text, at);
            boolean isNewline = text.charAt(at) == '\n';
            if (text.startsWith("/*", at) && comment < 0) {
                return null;
            }
            if (isNewline || line > 0 || comment > 0 && text.substring(at, at + comment).contains("\n")) {
                if (mayEnd) {
                    tokens.add(semicolon(at));
                }
                mayEnd = false;
            }
            if (isNewline || blanks > 0 || line > 0 || comment > 0) {
                at += isNewline ? 1 : Math.max(blanks, Math.max(line, comment));
                continue;
            }
            Token t = tokenAt(text, at);
            if (t == null) {
                return null;
            }
            tokens.add(t);
            mayEnd = t.kind <= 5 || ENDING_WORDS.contains(t.text) || ENDING_SIGNS.contains(t.text);
            at += t.length;
        }
        if (mayEnd) {
            tokens.add(semicolon(at));
        }
        return tokens;
    }

    private static Token semicolon(int place) {
        Token t = new Token();
        t.kind = 85;
        t.place = place;
        t.isPutIn = true;
        return t;
    }

    private static int lengthOf(Pattern pattern, String text, int at) {
        Matcher m = pattern.matcher(text).region(at, text.length());
        return m.lookingAt() ? m.end() - at : -1;
    }

    /** The longest token that begins there, null when there is none. */
    private static Token tokenAt(String text, int at) {
        Token t = new Token();
        t.place = at;
        for (Map.Entry<Pattern, Integer> e : BASES.entrySet()) {
            if (lengthOf(e.getKey(), text, at) > t.length) {
                t.length = lengthOf(e.getKey(), text, at);
                t.base = e.getValue();
                t.kind = t.base == 0 ? 3 : 2;
                t.bytes = text.substring(at, at + t.length).replace("_", "");
            }
        }
        if (t.length > 0) {
            return lengthOf(Pattern.compile("\\w"), text, at + t.length) > 0 ? null : t;
        }
        for (Map.Entry<Pattern, Integer> e : QUOTED.entrySet()) {
            if (lengthOf(e.getKey(), text, at) > 0) {
                t.length = lengthOf(e.getKey(), text, at);
                t.kind = e.getValue();
                tellValue(t, text.substring(at + 1, at + t.length - 1), text.charAt(at) == '`');
                return t;
            }
        }
        t.length = Math.max(0, lengthOf(NAME, text, at));
        t.text = text.substring(at, at + t.length);
        t.bytes = t.text;
        t.kind = t.length > 0 ? kindOfName(t.text) : 0;
        String[] signs = SIGNS.split(" ");
        for (int n = 0; n < signs.length; n++) {
            if (text.startsWith(signs[n], at) && signs[n].length() > t.length) {
                t.length = signs[n].length();
                t.text = signs[n];
                t.kind = 40 + n;
            }
        }
        return t.length > 0 ? t : null;
    }

    private static int kindOfName(String name) {
        int n = List.of(WORDS.split(" ")).indexOf(name);
        return n < 0 ? 1 : 10 + n;
    }

    private static void tellValue(Token t, String inside, boolean isRaw) {
        if (isRaw) {
            t.bytes = inside.replace("\r", "");
            return;
        }
        StringBuilder bytes = new StringBuilder();
        Matcher m = CHARACTER.matcher(inside);
        while (m.find()) {
            String one = m.group();
            char c = one.length() > 1 ? one.charAt(1) : 0;
            if (one.charAt(0) != '\\') {
                bytes.append(one);
                t.rune = new String(Kit.bytes(one), StandardCharsets.UTF_8).codePointAt(0);
            } else if (c == 'u' || c == 'U') {
                t.rune = Integer.parseInt(one.substring(2), 16);
                bytes.append(Kit.utf8(new String(Character.toChars((int) t.rune))));
            } else {
                int simple = "abtnvfr".indexOf(c);
                t.rune = c == 'x' ? Integer.parseInt(one.substring(2), 16) : simple >= 0 ? 7 + simple
                        : Character.isDigit(c) ? Integer.parseInt(one.substring(1), 8) : c;
                bytes.append((char) t.rune);
            }
        }
        t.bytes = t.kind == 5 ? bytes.toString() : "";
    }
}
