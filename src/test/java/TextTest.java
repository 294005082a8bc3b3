/** Promises 1 to 4: a new object, feed, end, size. */
public final class TextTest {
    public static void main(String[] args) {
        newObject();
        feedTakesTheHighestByteFirst();
        endCuts();
        whatIsCutDoesNotCount();
        feedGoesOnBehindTheCut();
        textIsLimited();
        scanLeavesNoText();
        Kit.finish();
    }

    private static void newObject() {
        SourceTokens x = new SourceTokens();
        Kit.due("NONE", SourceTokens.NONE, -1);
        Kit.due("size() of a new object", x.size(), 0);
        Kit.due("count() of a new object", x.count(), 0);
        Kit.due("names() of a new object", x.names(), 0);
        Kit.due("firstOf(0) of a new object", x.firstOf(0), -1);
        Kit.dueThrow("token(0, 0) of a new object", () -> x.token(0, 0));
        Kit.dueThrow("byteOf(0, 0) of a new object", () -> x.byteOf(0, 0));
        Kit.dueThrow("number(0) of a new object", () -> x.number(0));
        Kit.dueThrow("fits(0, 0) of a new object", () -> x.fits(0, 0) ? 1 : 0);
        Kit.due("scan() of a new object", x.scan(), 0);
        Kit.due("end(0) of a new object", new SourceTokens().end(0), true);
        Kit.due("end(1) of a new object", new SourceTokens().end(1), false);
    }

    private static void feedTakesTheHighestByteFirst() {
        SourceTokens x = new SourceTokens();
        boolean fed = x.feed(0x61626364, 0x65666768, 0x696A6B6C, 0x6D6E6F70, 0x71727374);
        Kit.due("feed of twenty letters", fed, true);
        Kit.due("size()", x.size(), 20);
        x.scan();
        Kit.dueText("the NAME that was fed", Kit.value(x, 0), "abcdefghijklmnopqrst");
        // Numbers below 0 have a first byte above 127.
        SourceTokens y = new SourceTokens();
        y.feed(0x22C3A9E2, 0x82ACF09F, 0x9880C280, 0xEFBFBFF4, 0x8FBFBF22);
        y.scan();
        Kit.dueText("the STRING that was fed", Kit.value(y, 0),
                Kit.utf8("\u00e9\u20ac\ud83d\ude00\u0080\uffff\udbff\udfff"));
    }

    private static void endCuts() {
        SourceTokens x = new SourceTokens();
        x.feed(0, 0, 0, 0, 0);
        Kit.due("end(21) of 20", x.end(21), false);
        Kit.due("end(-1)", x.end(-1), false);
        Kit.due("end(lowest)", x.end(Integer.MIN_VALUE), false);
        Kit.due("end(highest)", x.end(Integer.MAX_VALUE), false);
        Kit.due("size() after those", x.size(), 20);
        Kit.due("end(20) of 20", x.end(20), true);
        Kit.due("size() after end(20)", x.size(), 20);
        Kit.due("end(7) of 20", x.end(7), true);
        Kit.due("size() after end(7)", x.size(), 7);
        Kit.due("end(8) of 7", x.end(8), false);
        Kit.due("end(0) of 7", x.end(0), true);
        Kit.due("size() after end(0)", x.size(), 0);
        Kit.due("scan() after end(0)", x.scan(), 0);
    }

    private static void whatIsCutDoesNotCount() {
        String[] texts = {"+", "/", ".", "<", "<<", "&^", "0", "1", "1.", "a", "retur", "'a'", "/**/"};
        String[] cut = {"=", "/", "*", "5", "..", "==", "-", "x1", "e5", "_", "n", "a", "'", "\n", "#", "\0", "\u00ff"};
        for (String text : texts) {
            for (String more : cut) {
                SourceTokens x = new SourceTokens();
                Kit.feed(x, text + more);
                x.end(text.length());
                SourceTokens alone = Kit.scanned(text);
                String call = " of " + Kit.shown(text) + " with " + Kit.shown(more) + " cut off";
                Kit.due("scan()" + call, x.scan(), alone.count());
                for (int what = 0; what <= 8; what++) {
                    Kit.dueText("token(.., " + what + ")" + call, Kit.facts(x, what), Kit.facts(alone, what));
                }
            }
        }
    }

    private static void feedGoesOnBehindTheCut() {
        SourceTokens x = new SourceTokens();
        Kit.feed(x, "abc");
        Kit.feed(x, "def ghi");
        Kit.due("size() of 3 and 7", x.size(), 10);
        Kit.due("scan()", x.scan(), 3);
        Kit.dueText("the first NAME", Kit.value(x, 0), "abcdef");
    }

    /** Needs more calls than an object is promised for, but the limit is a promise, too. */
    private static void textIsLimited() {
        SourceTokens x = new SourceTokens();
        for (int n = 0; n < 3276; n++) {
            Kit.due("feed " + n, x.feed(0x20202020, 0x20202020, 0x20202020, 0x20202020, 0x20202020), true);
        }
        Kit.due("size() of 3276 feeds", x.size(), 65520);
        Kit.due("feed beyond 65536", x.feed(1, 2, 3, 4, 5), false);
        Kit.due("size() after it", x.size(), 65520);
        x.end(65517);
        Kit.due("feed beyond 65536 by one", x.feed(1, 2, 3, 4, 5), false);
        x.end(65516);
        Kit.due("feed up to 65536", x.feed(0x20202020, 0x20202020, 0x20202020, 0x20202020, 0x20202061), true);
        Kit.due("size() when full", x.size(), 65536);
        Kit.due("feed when full", x.feed(1, 2, 3, 4, 5), false);
        Kit.due("scan() of 65535 blanks and a NAME", x.scan(), 2);
        Kit.due("its place", x.token(0, 1), 65535);
        Kit.due("the place of the semicolon", x.token(1, 1), 65536);
    }

    private static void scanLeavesNoText() {
        SourceTokens x = new SourceTokens();
        Kit.feed(x, "a b");
        x.scan();
        Kit.due("size() after a scan", x.size(), 0);
        Kit.feed(x, "#");
        Kit.due("scan() of an error", x.scan(), -1);
        Kit.due("size() after it", x.size(), 0);
    }
}
