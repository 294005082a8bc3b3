/** Promise 8: byteOf. */
public final class BytesTest {
    public static void main(String[] args) {
        textsOfTokens();
        valuesOfStrings();
        valuesOfRawStrings();
        othersHaveNone();
        manyBytes();
        manyScans();
        Kit.finish();
    }

    private static void textsOfTokens() {
        value("abc", "abc");
        value("a1_2__3_", "a1_2__3_");
        value("_", "_");
        value("fallthrough", "fallthrough");
        value("1_000", "1000");
        value("0", "0");
        value("0_7", "07");
        value("0x_Ff_1", "0xFf1");
        value("0B_1_0", "0B10");
        value("0o17", "0o17");
        value("1_0.5_0e+1_0", "10.50e+10");
        value(".5E-0", ".5E-0");
        value("09.", "09.");
    }

    private static void valuesOfStrings() {
        value("\"\"", "");
        value("\"a'b`\"", "a'b`");
        value("\"\\a\\b\\f\\n\\r\\t\\v\\\\\\\"\"", "\7\b\f\n\r\t\13\\\"");
        value("\"\\000\\177\\200\\377\"", "\0\177\u0080\u00ff");
        value("\"\\x00\\x7f\\x80\\xFf\"", "\0\177\u0080\u00ff");
        value("\"\\u0000\\u007f\\u0080\\u07ff\\u0800\\ud7ff\\ue000\\uFFFF\"",
                Kit.utf8("\0\177\u0080\u07ff\u0800\ud7ff\ue000\uffff"));
        value("\"\\U00000041\\U00010000\\U0001F600\\U0010fFfF\"", Kit.utf8("A\ud800\udc00\ud83d\ude00\udbff\udfff"));
        value(Kit.utf8("\"\177\u0080\u07ff\u0800\uffff\ud83d\ude00\udbff\udfff\""),
                Kit.utf8("\177\u0080\u07ff\u0800\uffff\ud83d\ude00\udbff\udfff"));
        value("\"a\rb\tc\"", "a\rb\tc");
        value(Kit.utf8("\"\\xff\u00e9\\377\\u00e9\\xe9\\n\\u20ac\""), "\u00ff\u00c3\u00a9\u00ff\u00c3\u00a9\u00e9\n\u00e2\u0082\u00ac");
    }

    private static void valuesOfRawStrings() {
        value("``", "");
        value("`\r`", "");
        value("`a\r\nb\\n\"'\r`", "a\nb\\n\"'");
        value(Kit.utf8("`\u00e9\u20ac\ud83d\ude00`"), Kit.utf8("\u00e9\u20ac\ud83d\ude00"));
    }

    private static void value(String text, String want) {
        SourceTokens x = Kit.scanned("+ " + text + " z");
        Kit.dueText("bytes of " + Kit.shown(text), Kit.value(x, 1), want);
        for (int i : new int[] {-1, want.length(), want.length() + 1, Integer.MIN_VALUE, Integer.MAX_VALUE}) {
            Kit.dueThrow("byteOf(1, " + i + ") of " + Kit.shown(text), () -> x.byteOf(1, i));
        }
        Kit.dueText("bytes behind " + Kit.shown(text), Kit.value(x, 2), "z");
    }

    private static void othersHaveNone() {
        SourceTokens x = Kit.scanned("a 'b' + ;\n)");
        for (int k : new int[] {-1, 1, 2, 3, 4, 5, 6, Integer.MIN_VALUE, Integer.MAX_VALUE}) {
            Kit.dueThrow("byteOf(" + k + ", 0)", () -> x.byteOf(k, 0));
        }
        Kit.due("byteOf(0, 0)", x.byteOf(0, 0), 'a');
    }

    /** What earlier scans kept must not take the room of later ones. */
    private static void manyScans() {
        SourceTokens x = new SourceTokens();
        for (int n = 0; n < 20; n++) {
            String name = "n" + n + "_".repeat(5000);
            Kit.feed(x, n % 2 == 0 ? name : name + " #");
            x.scan();
            if (n % 2 == 0) {
                Kit.dueText("the NAME of scan " + n, Kit.value(x, 0), name);
            }
        }
    }

    private static void manyBytes() {
        String text = "ab12_".repeat(2000);
        Kit.dueText("a long NAME", Kit.value(Kit.scanned(text), 0), text);
        Kit.dueText("a long STRING", Kit.value(Kit.scanned("\"" + text + "\""), 0), text);
        String full = "x".repeat(65520);
        Kit.dueText("a NAME of 65520 bytes", Kit.value(Kit.scanned(full), 0), full);
    }
}
