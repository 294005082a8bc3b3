import java.math.BigInteger;

/** The boundary cases that the document's promises name, a sentence after the other. */
public final class PromiseEdgesTest {
    private static final int LOWEST = Integer.MIN_VALUE;
    private static final int HIGHEST = Integer.MAX_VALUE;
    private static final int BLANKS = 0x20202020;
    private static final String ALL_KINDS = "ab if 0x1_F 1_0.5 'c' \"d\\n\" `e\r` + ; (\nab";

    public static void main(String[] args) {
        newObject();
        feedAppendsTwentyBytes();
        feedTakesTheHighestFirst();
        feedIsRefusedWhenFull();
        endKeepsTheFirst();
        endIsRefused();
        size();
        scanLeavesNoText();
        scanTellsTheFineBytes();
        scansBeginAnew();
        manyScans();
        count();
        factsOfTokens();
        numbersOfNames();
        tokenIsRefused();
        bytesOfTokens();
        byteOfIsRefused();
        numberOfInts();
        numberOfRunes();
        numberIsRefused();
        fitsAtEveryPower();
        fitsOfLongInts();
        fitsIsRefused();
        names();
        firstOf();
        refusedCallsChangeNothing();
        allCallsOfAnObject();
        Kit.finish();
    }

    /** All that an object tells of its latest scan. */
    private static String told(SourceTokens x) {
        StringBuilder all = new StringBuilder();
        all.append(x.size()).append(' ').append(x.count()).append(' ').append(x.names());
        for (int k = 0; k < x.count(); k++) {
            for (int what = 0; what <= 8; what++) {
                all.append(' ').append(x.token(k, what));
            }
            all.append(' ').append(Kit.value(x, k));
            if (x.token(k, 0) == 2 || x.token(k, 0) == 4) {
                all.append(' ').append(x.number(k));
            }
        }
        for (int n = 0; n < x.names(); n++) {
            all.append(' ').append(x.firstOf(n));
        }
        return all.toString();
    }

    private static void dueNoTokens(String when, SourceTokens x) {
        Kit.due("count() " + when, x.count(), 0);
        Kit.due("names() " + when, x.names(), 0);
        for (int k : new int[] {-1, 0, 1}) {
            Kit.due("firstOf(" + k + ") " + when, x.firstOf(k), SourceTokens.NONE);
            Kit.dueThrow("token(" + k + ", 0) " + when, () -> x.token(k, 0));
            Kit.dueThrow("byteOf(" + k + ", 0) " + when, () -> x.byteOf(k, 0));
            Kit.dueThrow("number(" + k + ") " + when, () -> x.number(k));
            Kit.dueThrow("fits(" + k + ", 64) " + when, () -> x.fits(k, 64) ? 1 : 0);
        }
    }

    private static SourceTokens full() {
        SourceTokens x = new SourceTokens();
        Kit.feed(x, " ".repeat(Kit.MAX_TEXT));
        return x;
    }

    private static void newObject() {
        Kit.sentence("1: No text, no tokens");
        SourceTokens x = new SourceTokens();
        Kit.due("size()", x.size(), 0);
        dueNoTokens("of a new object", x);
        Kit.due("end(1)", x.end(1), false);
        Kit.due("end(0)", x.end(0), true);
        Kit.due("scan()", x.scan(), 0);
        Kit.feed(x, "a");
        x.scan();
        dueNoTokens("of another new object", new SourceTokens());
        Kit.due("count() of the first", x.count(), 2);
    }

    private static void feedAppendsTwentyBytes() {
        Kit.sentence("2: Appends twenty bytes to the text");
        SourceTokens x = new SourceTokens();
        for (int n = 1; n <= 500; n++) {
            Kit.due("feed " + n, x.feed(0, BLANKS, -1, LOWEST, HIGHEST), true);
            Kit.due("size() behind it", x.size(), 20 * n);
        }
        SourceTokens y = new SourceTokens();
        y.feed(0x61616161, 0x61616161, 0x61616161, 0x61616161, 0x61616161);
        y.feed(0x62626262, 0x62626262, 0x62626262, 0x62626262, 0x62626262);
        y.end(21);
        y.feed(0x63636363, 0x63636363, 0x63636363, 0x63636363, 0x63636363);
        y.scan();
        Kit.dueText("what was fed", Kit.value(y, 0), "a".repeat(20) + "b" + "c".repeat(20));
    }

    private static void feedTakesTheHighestFirst() {
        Kit.sentence("2: of each number the highest first");
        String text = "ABCDEFGHIJKLMNOPQRST";
        SourceTokens x = new SourceTokens();
        x.feed(0x41424344, 0x45464748, 0x494A4B4C, 0x4D4E4F50, 0x51525354);
        x.scan();
        Kit.dueText("what was fed", Kit.value(x, 0), text);
        SourceTokens y = new SourceTokens();
        y.feed(0x60F48FBF, 0xBFEFBFBF, 0xDFBF7F01, 0xC280EE80, 0x80202060);
        y.scan();
        Kit.dueText("bytes above 127 in all places", Kit.value(y, 0),
                "\u00f4\u008f\u00bf\u00bf\u00ef\u00bf\u00bf\u00df\u00bf\u007f\u0001\u00c2\u0080\u00ee\u0080\u0080  ");
    }

    private static void feedIsRefusedWhenFull() {
        Kit.sentence("2: false, changing nothing, when it would have more than 65536");
        SourceTokens x = Kit.scanned(ALL_KINDS);
        Kit.feed(x, "b" + " ".repeat(Kit.MAX_TEXT - 2) + "c");
        String before = told(x);
        Kit.due("size() of a full text", x.size(), Kit.MAX_TEXT);
        for (int room = 0; room < 20; room++) {
            x.end(Kit.MAX_TEXT - room);
            Kit.due("feed with room for " + room, x.feed(0, 0, 0, 0, 0), false);
            Kit.due("size() behind it", x.size(), Kit.MAX_TEXT - room);
        }
        x.end(Kit.MAX_TEXT - 20);
        Kit.due("feed with room for 20", x.feed(BLANKS, BLANKS, BLANKS, BLANKS, 0x20206465), true);
        Kit.due("size() behind it", x.size(), Kit.MAX_TEXT);
        Kit.due("feed when full", x.feed(-1, -1, -1, -1, -1), false);
        Kit.dueText("all that is told of the latest scan", told(x), before);
        Kit.due("scan()", x.scan(), 3);
        Kit.dueText("the first NAME", Kit.value(x, 0), "b");
        Kit.dueText("the last NAME", Kit.value(x, 1), "de");
        Kit.due("its place", x.token(1, 1), Kit.MAX_TEXT - 2);
        Kit.due("feed behind the scan", x.feed(0, 0, 0, 0, 0), true);
        Kit.due("size() behind it", x.size(), 20);
    }

    private static void endKeepsTheFirst() {
        Kit.sentence("3: Of the text only the first n bytes count");
        String text = "abcdefghijklmnopqrst";
        for (int n = 0; n <= 20; n++) {
            SourceTokens x = new SourceTokens();
            Kit.feed(x, text);
            Kit.due("end(" + n + ")", x.end(n), true);
            Kit.due("size() behind it", x.size(), n);
            Kit.due("end(" + n + ") again", x.end(n), true);
            Kit.due("scan()", x.scan(), n == 0 ? 0 : 2);
            Kit.dueText("the NAME", n == 0 ? "" : Kit.value(x, 0), text.substring(0, n));
        }
        SourceTokens x = new SourceTokens();
        x.feed(0x61232323, -1, -1, -1, -1);
        x.end(1);
        x.feed(0x62232323, -1, -1, -1, -1);
        x.end(2);
        Kit.due("scan() of what was not cut", x.scan(), 2);
        Kit.dueText("the NAME", Kit.value(x, 0), "ab");
        SourceTokens full = full();
        Kit.due("end(65536) of 65536", full.end(Kit.MAX_TEXT), true);
        Kit.due("end(0) of 65536", full.end(0), true);
        Kit.due("feed behind it", full.feed(0, 0, 0, 0, 0), true);
    }

    private static void endIsRefused() {
        Kit.sentence("3: false, changing nothing, when it has not so many, or n is below 0");
        SourceTokens x = Kit.scanned(ALL_KINDS);
        Kit.feed(x, "fgh");
        String before = told(x);
        for (int n : new int[] {4, 5, 20, 40, Kit.MAX_TEXT, Kit.MAX_TEXT + 1, HIGHEST, -1, -3, LOWEST}) {
            Kit.due("end(" + n + ") of 3", x.end(n), false);
            Kit.due("size() behind it", x.size(), 3);
        }
        Kit.dueText("all that is told of the latest scan", told(x), before);
        Kit.due("scan()", x.scan(), 2);
        Kit.dueText("the NAME", Kit.value(x, 0), "fgh");
        Kit.due("end(1) behind a scan", x.end(1), false);
        Kit.due("end(0) behind a scan", x.end(0), true);
        Kit.due("end(65537) of 65536", full().end(Kit.MAX_TEXT + 1), false);
    }

    private static void size() {
        Kit.sentence("4: How many bytes the text has");
        SourceTokens x = new SourceTokens();
        Kit.due("size() of no text", x.size(), 0);
        x.feed(0, 0, 0, 0, 0);
        Kit.due("size() of noughts", x.size(), 20);
        x.end(19);
        Kit.due("size() behind end(19)", x.size(), 19);
        x.end(20);
        Kit.due("size() behind a refused end", x.size(), 19);
        x.feed(0, 0, 0, 0, 0);
        Kit.due("size() behind feed", x.size(), 39);
        x.scan();
        Kit.due("size() behind scan", x.size(), 0);
        Kit.due("size() of a full text", full().size(), Kit.MAX_TEXT);
    }

    private static void scanLeavesNoText() {
        Kit.sentence("5: The text is taken apart, and empty then: how many tokens there are (those put in, too)");
        SourceTokens x = new SourceTokens();
        Kit.due("scan() of no text", x.scan(), 0);
        for (String text : new String[] {"a", "a;", "a\nb", "", " ", "//", "+", "#", "'", "a #"}) {
            Kit.feed(x, text);
            int tokens = x.scan();
            Kit.due("count() of " + text, x.count(), Math.max(0, tokens));
            Kit.due("size() behind it", x.size(), 0);
            Kit.due("end(1) behind it", x.end(1), false);
            Kit.due("scan() again", x.scan(), 0);
            dueNoTokens("of a second scan behind " + text, x);
        }
        Kit.dueScan("a", 2);
        Kit.dueScan("a;", 2);
        Kit.dueScan("a\nb", 4);
        Kit.dueScan("+", 1);
        SourceTokens y = new SourceTokens();
        Kit.feed(y, "a");
        y.scan();
        Kit.feed(y, "b");
        Kit.due("scan() of the later text", y.scan(), 2);
        Kit.dueText("its NAME", Kit.value(y, 0), "b");
        Kit.due("its place", y.token(0, 1), 0);
        Kit.feed(y, "c\n`\n`");
        y.scan();
        Kit.feed(y, "d");
        y.scan();
        Kit.dueText("lines begin anew", Kit.facts(y, 2), "1 1");
        Kit.dueText("columns begin anew", Kit.facts(y, 3), "1 2");
        Kit.feed(y, "e");
        y.scan();
        Kit.feed(y, "\n");
        Kit.due("scan() of a newline, a token in the scan before", y.scan(), 0);
    }

    private static void scanTellsTheFineBytes() {
        Kit.sentence("5: When it has an error: -1 - how many bytes were fine, and there are no tokens then");
        Kit.dueScan("#", -1);
        Kit.dueScan(" #", -2);
        Kit.dueScan("a", 2);
        Kit.dueScan("'", -2);
        Kit.dueScan("'a", -3);
        Kit.dueScan(" ".repeat(Kit.MAX_TEXT - 1) + "#", -Kit.MAX_TEXT);
        Kit.dueScan(" ".repeat(Kit.MAX_TEXT - 1) + "'", -1 - Kit.MAX_TEXT);
        SourceTokens x = new SourceTokens();
        for (String text : new String[] {"#", "a b c #", "1 'a' \"", "0x"}) {
            Kit.feed(x, ALL_KINDS);
            x.scan();
            Kit.feed(x, text);
            Kit.due("whether scan() of " + text + " is below 0", x.scan() < 0, true);
            dueNoTokens("of " + text, x);
        }
        Kit.feed(x, "c b");
        Kit.due("scan() behind errors", x.scan(), 3);
        Kit.dueText("numbers of NAMES behind errors", Kit.facts(x, 6), "0 1 -1");
        Kit.dueText("bytes behind errors", Kit.value(x, 0) + Kit.value(x, 1), "cb");
    }

    /** A token of an earlier scan has the same k as one of the later, and must leave nothing behind. */
    private static void scansBeginAnew() {
        Kit.sentence("6, 7: from the latest scan");
        String[] texts = {"", ALL_KINDS, "a\nb\nc\nd", "0x1 0b1 01 'z' 1", "'a' 'b' 'c' 'd'", "\"abc\" \"\" `d`", "+ - if (", "c b a c",
            "`\n\n` /*\n*/ e", "1.5 .5 1e5", "a #", "'"};
        for (String earlier : texts) {
            for (String later : texts) {
                SourceTokens x = Kit.scanned(earlier);
                Kit.feed(x, later);
                x.scan();
                Kit.dueText("all of " + Kit.shown(later) + " behind " + Kit.shown(earlier), told(x), told(Kit.scanned(later)));
            }
        }
    }

    private static void manyScans() {
        Kit.sentence("5: The text is taken apart, and empty then: what earlier scans kept takes no room");
        SourceTokens x = new SourceTokens();
        for (int n = 0; n < 12; n++) {
            String name = "n" + n + "_".repeat(10000);
            Kit.feed(x, n % 3 == 2 ? name + "#" : name);
            Kit.due("scan() " + n, x.scan(), n % 3 == 2 ? -1 - name.length() : 2);
            Kit.dueText("the NAME of scan " + n, n % 3 == 2 ? name : Kit.value(x, 0), name);
        }
    }

    private static void count() {
        Kit.sentence("6: How many tokens there are, from the latest scan");
        SourceTokens x = new SourceTokens();
        Kit.due("count() before any scan", x.count(), 0);
        Kit.feed(x, "a b");
        Kit.due("count() before the scan", x.count(), 0);
        x.scan();
        Kit.due("count() behind the scan", x.count(), 3);
        Kit.feed(x, "c");
        Kit.due("count() behind feed and end", x.count(), 3);
        x.end(9);
        x.end(0);
        Kit.due("count() behind other ends", x.count(), 3);
        x.scan();
        Kit.due("count() of no text", x.count(), 0);
        Kit.feed(x, "<=".repeat(Kit.MAX_TOKENS));
        Kit.due("scan() of the most tokens", x.scan(), Kit.MAX_TOKENS);
        Kit.due("count() of the most tokens", x.count(), Kit.MAX_TOKENS);
        Kit.due("kind of the last", x.token(Kit.MAX_TOKENS - 1, 0), 74);
        Kit.due("place of the last", x.token(Kit.MAX_TOKENS - 1, 1), 2 * Kit.MAX_TOKENS - 2);
        Kit.dueThrow("token behind the last", () -> x.token(Kit.MAX_TOKENS, 0));
    }

    private static void factsOfTokens() {
        Kit.sentence("7: 0 its kind, 1 its place (from 0), 2 its line, 3 its column in bytes (both from 1), 4 its length in bytes,"
                + " 5 whether it was put in");
        Kit.dueFacts(ALL_KINDS, 0, "1 23 2 3 4 5 5 40 85 78 1 85");
        Kit.dueFacts(ALL_KINDS, 1, "0 3 6 12 18 22 28 33 35 37 39 41");
        Kit.dueFacts(ALL_KINDS, 2, "1 1 1 1 1 1 1 1 1 1 2 2");
        Kit.dueFacts(ALL_KINDS, 3, "1 4 7 13 19 23 29 34 36 38 1 3");
        Kit.dueFacts(ALL_KINDS, 4, "2 2 5 5 3 5 4 1 1 1 2 0");
        Kit.dueFacts(ALL_KINDS, 5, "0 0 0 0 0 0 0 0 0 0 0 1");
        Kit.sentence("7: 6 the number of the NAME (NONE for others), 7 the base of the INT (0 for others),"
                + " 8 how many bytes byteOf() has");
        Kit.dueFacts(ALL_KINDS, 6, "0 -1 -1 -1 -1 -1 -1 -1 -1 -1 0 -1");
        Kit.dueFacts(ALL_KINDS, 7, "0 0 16 0 0 0 0 0 0 0 0 0");
        Kit.dueFacts(ALL_KINDS, 8, "2 2 4 4 0 2 1 0 0 0 2 0");
        Kit.dueFacts("a", 1, "0 1");
        Kit.dueFacts("\na", 3, "1 2");
        Kit.dueFacts(Kit.utf8("\"\u20ac\"a"), 3, "1 6 7");
        Kit.dueFacts(Kit.utf8("`\n\u20ac`a"), 3, "1 5 6");
    }

    private static void numbersOfNames() {
        Kit.sentence("7: equal ones have one number, 0, 1, .. in the order in which they come first");
        Kit.dueFacts("b a b a c", 6, "0 1 0 1 2 -1");
        Kit.dueFacts("a aa aaa a_ a0 A _a a", 6, "0 1 2 3 4 5 6 0 -1");
        Kit.dueFacts("Aa BB AaBB BBAa BB Aa", 6, "0 1 2 3 1 0 -1");
        Kit.dueFacts("return a if b", 6, "-1 0 -1 1 -1");
        String longName = "n".repeat(3000);
        Kit.dueFacts(longName + " " + longName + "m " + longName + " m" + longName, 6, "0 1 0 2 -1");
    }

    private static void tokenIsRefused() {
        Kit.sentence("7: NoSuchElementException: there is no such token or what");
        SourceTokens x = Kit.scanned(ALL_KINDS);
        int[] noTokens = {-1, x.count(), x.count() + 1, 64, Kit.MAX_TOKENS, 390451572, -390451572, HIGHEST, LOWEST};
        int[] noWhats = {-1, 9, 10, 11, 12, 100, HIGHEST, LOWEST};
        for (int k : noTokens) {
            for (int what = 0; what <= 8; what++) {
                int asked = what;
                Kit.dueThrow("token(" + k + ", " + what + ")", () -> x.token(k, asked));
            }
            Kit.dueThrow("token(" + k + ", 9)", () -> x.token(k, 9));
        }
        for (int k = 0; k < x.count(); k++) {
            for (int what : noWhats) {
                int asked = k;
                Kit.dueThrow("token(" + k + ", " + what + ")", () -> x.token(asked, what));
            }
        }
    }

    private static void bytesOfTokens() {
        Kit.sentence("8: Byte i (from 0, as 0 .. 255) of what token k is: of a STRING its value, of a NAME, INT, FLOAT or word"
                + " the text, without the _ between digits");
        SourceTokens x = Kit.scanned(ALL_KINDS);
        String[] values = {"ab", "if", "0x1F", "10.5", "", "d\n", "e", "", "", "", "ab", ""};
        for (int k = 0; k < values.length; k++) {
            Kit.dueText("the bytes of token " + k, Kit.value(x, k), values[k]);
        }
        SourceTokens y = Kit.scanned("\"\\x00\\xff\\u00ff\\177\\200\"");
        Kit.dueText("lowest and highest bytes", Kit.value(y, 0), "\0\u00ff\u00c3\u00bf\177\u0080");
        SourceTokens z = Kit.scanned("a1_2 1_2 0_7 0b_1_0 1_0.0_1e1_0 _1_");
        String[] others = {"a1_2", "12", "07", "0b10", "10.01e10", "_1_"};
        for (int k = 0; k < others.length; k++) {
            Kit.dueText("the bytes of token " + k, Kit.value(z, k), others[k]);
        }
    }

    private static void byteOfIsRefused() {
        Kit.sentence("8: others have none. NoSuchElementException: there is none");
        SourceTokens x = Kit.scanned(ALL_KINDS);
        for (int k = 0; k < x.count(); k++) {
            int asked = k;
            int count = x.token(k, 8);
            for (int i : new int[] {-1, count, count + 1, 256, HIGHEST, LOWEST}) {
                Kit.dueThrow("byteOf(" + k + ", " + i + ")", () -> x.byteOf(asked, i));
            }
        }
        for (int k : new int[] {-1, x.count(), Kit.MAX_TOKENS, HIGHEST, LOWEST}) {
            for (int i : new int[] {0, -1, 1, HIGHEST, LOWEST}) {
                Kit.dueThrow("byteOf(" + k + ", " + i + ")", () -> x.byteOf(k, i));
            }
        }
        SourceTokens empty = Kit.scanned("a \"\" b `\r` c");
        Kit.dueThrow("byteOf(1, 0) of an empty STRING", () -> empty.byteOf(1, 0));
        Kit.dueThrow("byteOf(1, -1) of an empty STRING", () -> empty.byteOf(1, -1));
        Kit.dueThrow("byteOf(3, 0) of an empty raw STRING", () -> empty.byteOf(3, 0));
    }

    private static void dueNumber(String text, long want) {
        Kit.due("number() of " + Kit.shown(text), Kit.scanned(text).number(0), want);
    }

    private static String[] inAllBases(BigInteger value) {
        return new String[] {value.toString(), "0b" + value.toString(2), "0" + value.toString(8), "0o" + value.toString(8),
            "0x" + value.toString(16), "0X_" + value.toString(16).toUpperCase(), "0B" + "0".repeat(600) + value.toString(2)};
    }

    private static void numberOfInts() {
        Kit.sentence("9: of an INT, as far as 64 bits go");
        for (int power = 0; power <= 130; power++) {
            for (int more = -1; more <= 1; more++) {
                BigInteger value = BigInteger.ONE.shiftLeft(power).add(BigInteger.valueOf(more));
                for (String text : inAllBases(value)) {
                    dueNumber(text, value.longValue());
                }
            }
        }
        dueNumber("9223372036854775807", Long.MAX_VALUE);
        dueNumber("9223372036854775808", Long.MIN_VALUE);
        dueNumber("18446744073709551615", -1);
        dueNumber("18446744073709551616", 0);
        dueNumber("0xF_0123456789abcdef", 0x0123456789abcdefL);
        dueNumber("0x" + "f".repeat(Kit.MAX_TEXT - 2), -1);
        dueNumber("0", 0);
        dueNumber("00", 0);
        dueNumber("0x_0", 0);
    }

    private static void numberOfRunes() {
        Kit.sentence("9: of a RUNE its value");
        dueNumber("'\\000'", 0);
        dueNumber("'\\u0000'", 0);
        dueNumber("'\u0001'", 1);
        dueNumber("'\\377'", 255);
        dueNumber("'\\xff'", 255);
        dueNumber("'\u007f'", 127);
        dueNumber("'\\U0010ffff'", 0x10FFFF);
        dueNumber("'\u00f4\u008f\u00bf\u00bf'", 0x10FFFF);
        dueNumber("'\u00c2\u0080'", 128);
        dueNumber("'0'", 48);
    }

    private static void numberIsRefused() {
        Kit.sentence("9: NoSuchElementException: it is none such");
        SourceTokens x = Kit.scanned(ALL_KINDS);
        for (int k : new int[] {0, 1, 3, 5, 6, 7, 8, 9, 10, 11, 12, -1, Kit.MAX_TOKENS, HIGHEST, LOWEST}) {
            Kit.dueThrow("number(" + k + ")", () -> x.number(k));
        }
        Kit.due("number(2)", x.number(2), 31);
        Kit.due("number(4)", x.number(4), 'c');
    }

    private static void fitsAtEveryPower() {
        Kit.sentence("10: Whether INT k is less than 2 to the power bits (0 .. 512)");
        for (int bits = 0; bits <= 512; bits++) {
            BigInteger power = BigInteger.ONE.shiftLeft(bits);
            for (int more = -1; more <= 1; more++) {
                BigInteger value = power.add(BigInteger.valueOf(more));
                for (String text : inAllBases(value)) {
                    Kit.due("fits(0, " + bits + ") of " + Kit.shown(text), Kit.scanned(text).fits(0, bits), more < 0);
                }
            }
        }
        for (int power = 0; power <= 520; power++) {
            SourceTokens x = Kit.scanned("0x" + BigInteger.ONE.shiftLeft(power).toString(16));
            for (int bits = 0; bits <= 512; bits++) {
                Kit.due("fits(0, " + bits + ") of 2 to the power " + power, x.fits(0, bits), power < bits);
            }
        }
        SourceTokens x = Kit.scanned("0 1 2");
        Kit.due("fits(0, 0) of 0", x.fits(0, 0), true);
        Kit.due("fits(1, 0) of 1", x.fits(1, 0), false);
        Kit.due("fits(1, 1) of 1", x.fits(1, 1), true);
        Kit.due("fits(2, 1) of 2", x.fits(2, 1), false);
        Kit.due("fits(2, 512) of 2", x.fits(2, 512), true);
    }

    private static void fitsOfLongInts() {
        Kit.sentence("10: Whether INT k is less than 2 to the power bits, of INTS far beyond 512 bits");
        for (String text : new String[] {"9".repeat(Kit.MAX_TEXT), "0x" + "f".repeat(Kit.MAX_TEXT - 2), "0x1" + "0".repeat(128),
            "0b1" + "0".repeat(512), "0x1" + "0".repeat(4000), "01" + "0".repeat(20000)}) {
            SourceTokens x = Kit.scanned(text);
            for (int bits : new int[] {0, 1, 64, 511, 512}) {
                Kit.due("fits(0, " + bits + ") of " + Kit.shown(text), x.fits(0, bits), false);
            }
        }
        SourceTokens y = Kit.scanned("0b" + "0".repeat(Kit.MAX_TEXT - 3) + "1");
        Kit.due("fits(0, 0) of noughts and 1", y.fits(0, 0), false);
        Kit.due("fits(0, 1) of noughts and 1", y.fits(0, 1), true);
        SourceTokens z = Kit.scanned("0x" + "f".repeat(128) + " 1 0x" + "f".repeat(129) + " 1 0");
        boolean[] want = {true, true, false, true, true};
        for (int k : new int[] {0, 1, 2, 3, 4, 2, 0, 2, 4, 1}) {
            Kit.due("fits(" + k + ", 512) among others", z.fits(k, 512), want[k]);
        }
        Kit.due("fits(1, 1) behind larger ones", z.fits(1, 1), true);
        Kit.due("fits(4, 0) behind larger ones", z.fits(4, 0), true);
    }

    private static void fitsIsRefused() {
        Kit.sentence("10: NoSuchElementException: it is no INT, or bits is not as said");
        SourceTokens x = Kit.scanned(ALL_KINDS);
        for (int bits : new int[] {-1, 513, 514, 1024, HIGHEST, LOWEST}) {
            Kit.dueThrow("fits(2, " + bits + ")", () -> x.fits(2, bits) ? 1 : 0);
            Kit.dueThrow("fits(0, " + bits + ")", () -> x.fits(0, bits) ? 1 : 0);
            Kit.dueThrow("fits(-1, " + bits + ")", () -> x.fits(-1, bits) ? 1 : 0);
        }
        for (int k : new int[] {0, 1, 3, 4, 5, 6, 7, 8, 9, 10, 11, 12, -1, Kit.MAX_TOKENS, HIGHEST, LOWEST}) {
            for (int bits : new int[] {0, 8, 512}) {
                Kit.dueThrow("fits(" + k + ", " + bits + ")", () -> x.fits(k, bits) ? 1 : 0);
            }
        }
        Kit.due("fits(2, 0)", x.fits(2, 0), false);
        Kit.due("fits(2, 512)", x.fits(2, 512), true);
    }

    private static String differentNames(int count) {
        // No word of the language begins with one of these.
        String first = "ABCDEFGHIJKLMNOPQRSTUVWXYZ_";
        String behind = first + "abcdefghijklmnopqrstuvwxyz0123456789";
        StringBuilder text = new StringBuilder();
        for (int n = 0; n < count; n++) {
            text.append(first.charAt(n % first.length()));
            for (int rest = n / first.length(); rest > 0; rest = (rest - 1) / behind.length()) {
                text.append(behind.charAt((rest - 1) % behind.length()));
            }
            text.append(' ');
        }
        return text.toString();
    }

    private static void names() {
        Kit.sentence("11: How many different NAMES there are");
        String[] texts = {"", "+", "if else", "1 'a' \"a\" `a`", "// a", "a", "a a a", "a b a", "a A", "_ __", "ab a b", "a #"};
        int[] want = {0, 0, 0, 0, 0, 1, 1, 2, 2, 2, 3, 0};
        for (int n = 0; n < texts.length; n++) {
            SourceTokens x = Kit.scanned("y z");
            Kit.feed(x, texts[n]);
            Kit.due("names() before the scan", x.names(), 2);
            x.scan();
            Kit.due("names() of " + texts[n], x.names(), want[n]);
        }
        mostNames();
        mostNamesTwice();
    }

    /** As many as there may be tokens, but for the semicolon behind the last. */
    private static void mostNames() {
        SourceTokens most = Kit.scanned(differentNames(Kit.MAX_TOKENS - 1));
        Kit.due("count() of the most NAMES", most.count(), Kit.MAX_TOKENS);
        Kit.due("names() of the most NAMES", most.names(), Kit.MAX_TOKENS - 1);
        for (int n = 0; n < Kit.MAX_TOKENS - 1; n++) {
            Kit.due("the number of NAME " + n, most.token(n, 6), n);
            Kit.due("firstOf(" + n + ")", most.firstOf(n), n);
        }
        Kit.due("firstOf behind the last", most.firstOf(Kit.MAX_TOKENS - 1), SourceTokens.NONE);
        Kit.feed(most, "b a b");
        most.scan();
        Kit.due("names() behind the most", most.names(), 2);
        Kit.dueText("numbers behind the most", Kit.facts(most, 6), "0 1 0 -1");
    }

    private static void mostNamesTwice() {
        int half = Kit.MAX_TOKENS / 2 - 1;
        SourceTokens x = Kit.scanned(differentNames(half) + differentNames(half));
        Kit.due("names() of NAMES that come twice", x.names(), half);
        for (int n = 0; n < half; n++) {
            Kit.due("the number of NAME " + n, x.token(n, 6), n);
            Kit.due("the number of NAME " + n + " again", x.token(half + n, 6), n);
            Kit.due("firstOf(" + n + ")", x.firstOf(n), n);
        }
        Kit.due("firstOf behind the last", x.firstOf(half), SourceTokens.NONE);
    }

    private static void firstOf() {
        Kit.sentence("12: The first token that is NAME number n; NONE when there is none");
        SourceTokens x = Kit.scanned("+ b if a b\na 1 c");
        int[] want = {1, 3, 8};
        for (int n = 0; n < want.length; n++) {
            Kit.due("firstOf(" + n + ")", x.firstOf(n), want[n]);
        }
        for (int n : new int[] {-1, 3, 4, 31, 32, 33, 512, Kit.MAX_TOKENS, HIGHEST, LOWEST}) {
            Kit.due("firstOf(" + n + ")", x.firstOf(n), SourceTokens.NONE);
        }
        Kit.feed(x, "c");
        x.scan();
        Kit.due("firstOf(0) of the next scan", x.firstOf(0), 0);
        Kit.due("firstOf(1) of the next scan", x.firstOf(1), SourceTokens.NONE);
        Kit.feed(x, "c #");
        x.scan();
        Kit.due("firstOf(0) behind an error", x.firstOf(0), SourceTokens.NONE);
        Kit.due("firstOf(0) of no NAMES", Kit.scanned("if 1").firstOf(0), SourceTokens.NONE);
    }

    private static void refusedCallsChangeNothing() {
        Kit.sentence("a refused call changes nothing");
        SourceTokens x = Kit.scanned(ALL_KINDS);
        Kit.feed(x, "fgh");
        String before = told(x);
        for (int wrong : new int[] {-1, 12, 512, HIGHEST, LOWEST}) {
            Kit.dueThrow("token(" + wrong + ", 0)", () -> x.token(wrong, 0));
            Kit.dueThrow("token(0, " + wrong + ")", () -> x.token(0, wrong));
            Kit.dueThrow("byteOf(" + wrong + ", 0)", () -> x.byteOf(wrong, 0));
            Kit.dueThrow("byteOf(0, " + wrong + ")", () -> x.byteOf(0, wrong));
            Kit.dueThrow("number(" + wrong + ")", () -> x.number(wrong));
            Kit.dueThrow("fits(" + wrong + ", 1)", () -> x.fits(wrong, 1) ? 1 : 0);
            Kit.due("firstOf(" + wrong + ")", x.firstOf(wrong), SourceTokens.NONE);
            Kit.due("end(" + wrong + ")", x.end(wrong), false);
            Kit.dueText("all that is told", told(x), before);
        }
        Kit.due("scan()", x.scan(), 2);
        Kit.dueText("the NAME", Kit.value(x, 0), "fgh");
    }

    private static void allCallsOfAnObject() {
        Kit.sentence("An object is used for at most 512 calls after it has been made");
        SourceTokens x = new SourceTokens();
        for (int n = 0; n < 507; n++) {
            x.feed(0x613B613B, 0x613B613B, 0x613B613B, 0x613B613B, 0x613B613B);
        }
        Kit.due("call 508, size()", x.size(), 10140);
        Kit.due("call 509, end(10139)", x.end(10139), true);
        Kit.due("call 510, scan()", x.scan(), 10140);
        Kit.due("call 511, token(10139, 5)", x.token(10139, 5), 1);
        Kit.due("call 512, names()", x.names(), 1);
        SourceTokens y = new SourceTokens();
        for (int n = 0; n < 170; n++) {
            y.feed(0x61206220, BLANKS, BLANKS, BLANKS, 0x20200A63);
            Kit.due("scan() " + n, y.scan(), 5);
            Kit.due("firstOf(2) of scan " + n, y.firstOf(2), 3);
        }
    }
}
