/** Promises 11 and 12: names and firstOf. */
public final class NamesTest {
    public static void main(String[] args) {
        fewNames();
        noNames();
        namesAreOfTheLatestScan();
        manyNames();
        namesOfOneHash();
        Kit.finish();
    }

    private static void fewNames() {
        SourceTokens x = Kit.scanned("if b + a b A a_ a \"c\" // d\n b");
        Kit.due("names()", x.names(), 4);
        int[] firsts = {1, 3, 5, 6};
        for (int n = 0; n < firsts.length; n++) {
            Kit.due("firstOf(" + n + ")", x.firstOf(n), firsts[n]);
        }
        for (int n : new int[] {-1, 4, 5, 31, 32, 100000, Integer.MIN_VALUE, Integer.MAX_VALUE}) {
            Kit.due("firstOf(" + n + ")", x.firstOf(n), -1);
        }
    }

    private static void noNames() {
        SourceTokens x = Kit.scanned("if 1 + 'a' \"a\"");
        Kit.due("names() of none", x.names(), 0);
        Kit.due("firstOf(0) of none", x.firstOf(0), -1);
    }

    private static void namesAreOfTheLatestScan() {
        SourceTokens x = Kit.scanned("a b c");
        Kit.feed(x, "c d");
        Kit.due("names() before the scan", x.names(), 3);
        x.scan();
        Kit.due("names() after it", x.names(), 2);
        Kit.dueText("numbers", Kit.facts(x, 6), "0 1 -1");
        Kit.due("firstOf(1)", x.firstOf(1), 1);
        Kit.due("firstOf(2)", x.firstOf(2), -1);
    }

    private static void manyNames() {
        StringBuilder text = new StringBuilder();
        for (int n = 0; n < 3000; n++) {
            text.append("n").append(n).append(" n").append(n / 2).append(' ');
        }
        SourceTokens x = Kit.scanned(text.toString());
        Kit.due("names() of many", x.names(), 3000);
        for (int n = 0; n < 3000; n++) {
            Kit.due("number of n" + n, x.token(2 * n, 6), n);
            Kit.due("number of n" + n / 2, x.token(2 * n + 1, 6), n / 2);
            Kit.due("firstOf(" + n + ")", x.firstOf(n), 2 * n);
        }
    }

    /** Aa and BB are alike to the hash that is usual in Java. */
    private static void namesOfOneHash() {
        SourceTokens x = Kit.scanned("AaAa BBBB AaBB BBAa BBBB AaAa BBAa AaBB");
        Kit.dueText("numbers", Kit.facts(x, 6), "0 1 2 3 1 0 3 2 -1");
    }
}
