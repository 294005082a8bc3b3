/** Promise 7: what token() tells. */
public final class TokenTest {
    private static final String WORDS = "break case chan const continue default defer else fallthrough for func go goto"
            + " if import interface map package range return select struct switch type var";
    private static final String SIGNS = "+ - * / % & | ^ << >> &^ += -= *= /= %= &= |= ^= <<= >>= &^= && || <- ++ -- =="
            + " < > = ! ~ != <= >= := ... ( ) [ ] { } , ; . :";

    public static void main(String[] args) {
        kindsOfWords();
        kindsOfSigns();
        otherKinds();
        placesLinesAndColumns();
        semicolonsStandWhereTheirCauseIs();
        nameNumbersAndBases();
        byteCounts();
        wrongQuestions();
        manyTokens();
        Kit.finish();
    }

    private static void kindsOfWords() {
        String[] words = WORDS.split(" ");
        Kit.due("the words", words.length, 25);
        for (int n = 0; n < words.length; n++) {
            SourceTokens x = Kit.scanned(words[n]);
            Kit.due("kind of " + words[n], x.token(0, 0), 10 + n);
            Kit.due("number of " + words[n], x.token(0, 6), -1);
            Kit.due("bytes of " + words[n], x.token(0, 8), words[n].length());
            Kit.due("names() of " + words[n], x.names(), 0);
            for (String near : new String[] {words[n] + "x", words[n] + "_", words[n] + "1", "_" + words[n],
                words[n].toUpperCase(), words[n].substring(0, words[n].length() - 1) + "0"}) {
                Kit.due("kind of " + near, Kit.scanned(near).token(0, 0), 1);
            }
        }
    }

    private static void kindsOfSigns() {
        String[] signs = SIGNS.split(" ");
        Kit.due("the signs", signs.length, 48);
        SourceTokens all = Kit.scanned(SIGNS);
        for (int n = 0; n < signs.length; n++) {
            SourceTokens x = Kit.scanned(signs[n]);
            Kit.due("kind of " + signs[n], x.token(0, 0), 40 + n);
            Kit.due("length of " + signs[n], x.token(0, 4), signs[n].length());
            Kit.due("bytes of " + signs[n], x.token(0, 8), 0);
            Kit.due("kind of " + signs[n] + " among all", all.token(n, 0), 40 + n);
        }
        Kit.dueText("kinds of ;\\na", Kit.facts(Kit.scanned(";\na"), 0), "85 1 85");
        Kit.dueText("whether they were put in", Kit.facts(Kit.scanned(";\na"), 5), "0 0 1");
    }

    private static void otherKinds() {
        SourceTokens x = Kit.scanned("_a 0 0x1.5 1e5 'a' \"b\" `c`");
        Kit.dueText("kinds", Kit.facts(x, 0), "1 2 2 3 3 4 5 5 85");
        Kit.dueText("lengths", Kit.facts(x, 4), "2 1 3 2 3 3 3 3 0");
        Kit.dueText("kinds of ..5...6", Kit.facts(Kit.scanned("..5...6"), 0), "86 3 77 2 85");
    }

    private static void placesLinesAndColumns() {
        SourceTokens x = Kit.scanned("a\n\tb `c\n\nd` e /*\n*/ +\r\n  f");
        Kit.dueText("kinds", Kit.facts(x, 0), "1 85 1 5 1 85 40 1 85");
        Kit.dueText("places", Kit.facts(x, 1), "0 1 3 5 12 14 20 25 26");
        Kit.dueText("lines", Kit.facts(x, 2), "1 1 2 2 4 4 5 6 6");
        Kit.dueText("columns", Kit.facts(x, 3), "1 2 2 4 4 6 4 3 4");
        Kit.dueText("lengths", Kit.facts(x, 4), "1 0 1 6 1 0 1 1 0");
        Kit.dueText("put in", Kit.facts(x, 5), "0 1 0 0 0 1 0 0 1");
        SourceTokens y = Kit.scanned(Kit.utf8("\"\u20ac\" a /*\u20ac*/ b"));
        Kit.dueText("columns count bytes", Kit.facts(y, 3), "1 7 17 18");
    }

    private static void semicolonsStandWhereTheirCauseIs() {
        semicolon("a  \n", 3, 1, 4);
        semicolon("a", 1, 1, 2);
        semicolon("a  ", 3, 1, 4);
        semicolon("a // b\n", 2, 1, 3);
        semicolon("a // b", 2, 1, 3);
        semicolon("a /* b */", 9, 1, 10);
        semicolon("a /* b */\n", 9, 1, 10);
        semicolon("a /* b */ // c\n", 10, 1, 11);
        semicolon("a /* b */ /* c\n d */ +", 10, 1, 11);
        semicolon("a /* \n\n */ \n +", 2, 1, 3);
        semicolon("`\n\n` \n", 5, 3, 3);
    }

    private static void semicolon(String text, int place, int line, int column) {
        SourceTokens x = Kit.scanned(text);
        String call = " of the semicolon in " + Kit.shown(text);
        Kit.due("kind" + call, x.token(1, 0), 85);
        Kit.due("place" + call, x.token(1, 1), place);
        Kit.due("line" + call, x.token(1, 2), line);
        Kit.due("column" + call, x.token(1, 3), column);
        Kit.due("length" + call, x.token(1, 4), 0);
        Kit.due("put in" + call, x.token(1, 5), 1);
        Kit.due("name" + call, x.token(1, 6), -1);
        Kit.due("base" + call, x.token(1, 7), 0);
        Kit.due("bytes" + call, x.token(1, 8), 0);
    }

    private static void nameNumbersAndBases() {
        SourceTokens x = Kit.scanned("b a b if A a 1 'a' \"a\" +");
        Kit.dueText("numbers", Kit.facts(x, 6), "0 1 0 -1 2 1 -1 -1 -1 -1");
        SourceTokens y = Kit.scanned("0 10 1_0 00 07 0_7 0b1 0B1 0o7 0O7 0x1 0X_1 1.5 08. 'a' a +");
        Kit.dueText("bases", Kit.facts(y, 7), "10 10 10 8 8 8 2 2 8 8 16 16 0 0 0 0 0");
    }

    private static void byteCounts() {
        SourceTokens x = Kit.scanned("ab if 1_000 0x_F 1_0.5_0 'a' \"\\u20ac\\n\" `\r\n` \"\" ++");
        Kit.dueText("byte counts", Kit.facts(x, 8), "2 2 4 3 5 0 4 1 0 0 0");
        Kit.dueText("lengths", Kit.facts(x, 4), "2 2 5 4 7 3 10 4 2 2 0");
    }

    private static void wrongQuestions() {
        SourceTokens x = Kit.scanned("a b");
        int[] outside = {-1, 3, 4, 512, Integer.MIN_VALUE, Integer.MAX_VALUE};
        for (int k : outside) {
            for (int what = -1; what <= 9; what++) {
                int asked = what;
                Kit.dueThrow("token(" + k + ", " + what + ")", () -> x.token(k, asked));
            }
        }
        for (int what : new int[] {-1, 9, 10, 11, 12, Integer.MIN_VALUE, Integer.MAX_VALUE}) {
            Kit.dueThrow("token(0, " + what + ")", () -> x.token(0, what));
        }
    }

    private static void manyTokens() {
        SourceTokens x = Kit.scanned("a1 + 2\n".repeat(2000));
        Kit.due("count() of many", x.count(), 8000);
        for (int k = 0; k < 8000; k++) {
            Kit.due("place of " + k, x.token(k, 1), k / 4 * 7 + new int[] {0, 3, 5, 6}[k % 4]);
            Kit.due("line of " + k, x.token(k, 2), k / 4 + 1);
        }
    }
}
