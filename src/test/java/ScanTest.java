/** Promises 5 and 6: scan and count, by how many tokens there are and where errors are. */
public final class ScanTest {
    public static void main(String[] args) {
        betweenTokens();
        comments();
        numbers();
        runes();
        strings();
        rawStrings();
        utf8();
        signs();
        semicolons();
        tokensAreLimited();
        countStaysUntilTheNextScan();
        Kit.finish();
    }

    private static void fine(String text, int tokens) {
        Kit.dueScan(text, tokens);
    }

    private static void wrong(int place, String... texts) {
        Kit.dueError(place, texts);
    }

    private static void betweenTokens() {
        fine("", 0);
        fine(" \t\r\n \n", 0);
        fine("a\tb\rc d", 5);
        wrong(0, "#", "$", "?", "@", "\\", "\0", "\1", "\f", "\13", "\177", "\u0080", "\u00c3\u00a9", "\u00ff");
        wrong(2, "a \0", "a #", "a \u00e2\u0082\u00ac", "1 \\");
        wrong(1, "a\u00c3\u00a9", "a\0", "a$b");
    }

    private static void comments() {
        fine("//", 0);
        fine("// any # thing \1 \177 \\ ' \" `\r\n", 0);
        fine("/**/", 0);
        fine("/***/", 0);
        fine("/* / * ** /* // */", 0);
        fine("/*\n\n*/a", 2);
        fine("a/**/b", 3);
        fine("a//b", 2);
        fine("a /b", 4);
        wrong(3, "/*/");
        wrong(2, "/*");
        wrong(3, "/**");
        wrong(3, "// \0", "/* \0 */", "// \u0080", "/* \u00c0\u0080");
        wrong(4, "// \u00c3\n", "// \u00c3", "/* \u00e0\u0080", "/* \u00c3*/");
        wrong(4, "/* \u00ed\u00a0");
    }

    private static void numbers() {
        for (String one : new String[] {"0", "1", "9", "10", "1_0", "1_2_3", "00", "07", "0_7", "0_0", "07_7",
            "0b0", "0B1", "0b_1", "0b1_0", "0o7", "0O_7", "0x0", "0X_fF", "0xa_B", "0.", "1.", ".5", "1.5",
            "08.", "09.5", "0_8.5", "0_9e1", "1_0.0_1", "1e5", "1E+5", "1e-5", "1.e5", ".5e5", "1e1_0", "08e1",
            "0e0", "00.5", ".0_0"}) {
            fine(one, 2);
            fine(one + " ", 2);
            fine(one + "+", 2);
        }
        fine("1.2.3", 3);
        fine("1..2", 3);
        fine("0x1.5", 3);
        fine("0b1.5", 3);
        fine("0x1e+5", 4);
        fine("1e5.5", 3);
        fine("1...", 3);
        fine("0x1.e5", 4);
        fine("1\"a\"", 3);
        wrong(1, "1a", "1x", "9b", "0a", "0c1", "0p");
        wrong(2, "1_", "1__0", "1_a", "1_.5", "1_e5", "0_", "0__7", "0_x1", "0_.", "0_e1", "0x", "0xg", "0x.",
                "0b2", "0b", "0o8", "0o", "1e", "1ea", "1e_1", "1e.", "1.a", "1._5", "0b ", "1e ", "08 ", "09+", "08", "09a",
                "08\n", "0b9", ".5a", "10g", "07a");
        wrong(3, "0x_", "0x__1", "0x_g", "0b12", "0b1a", "0o18", "0b1e", "0x1g", "0x1p1", "1e+", "1e+a", "1e-_",
                "0_8", "0_8 ", "078", "078)", "1e5a", "1.5a", "1.ea", "1_0g", "1.e", "0b_2");
        wrong(4, "0x1_", "0x1_g", "0b1_2", "0o1_8", "1e+5a", "1e5_a", "1.e+", "08_1", "1.5_", "1.5__1", "1.5_ ", "1e5_");
    }

    private static void runes() {
        for (String one : new String[] {"'a'", "'\"'", "'`'", "'\\''", "'\\\\'", "'\\a'", "'\\b'", "'\\f'", "'\\n'",
            "'\\r'", "'\\t'", "'\\v'", "'\\000'", "'\\377'", "'\\x00'", "'\\xfF'", "'\\u0000'", "'\\ud7ff'", "'\\ue000'",
            "'\\U0010FFFF'", "'\\U0000d7ff'", "'\\U0001d800'", "'\\uD123'", "'\r'", "'\t'", "'\1'",
            Kit.utf8("'\u00e9'"), Kit.utf8("'\uffff'"), Kit.utf8("'\ud83d\ude00'")}) {
            fine(one, 2);
        }
        fine("'a''b'", 3);
        fine("'a'b", 3);
        wrong(1, "'", "''", "'\n'", "'\0'", "'\u0080'");
        wrong(2, "'a", "'ab'", "'a\n", "'\\", "'\\\"'", "'\\4", "'\\777'", "'\\8", "'\\c'", "'\\\n", "'\\`'", "'\\X00'");
        wrong(3, "'\\'", "'\\1'", "'\\x", "'\\xg0", "'\\u", "'\\ug", "'\\U1", "'\\U", "'\\18");
        wrong(4, "'\\ud800'", "'\\uDF", "'\\U01", "'\\U0g", "'\\x1'", "'\\11'", "'\\u1'", "'\\118'");
        wrong(5, "'\\x111", "'\\111", "'\\1111", "'\\u11'", "'\\U002", "'\\U00g");
        wrong(6, "'\\U0011", "'\\u111'", "'\\U001g");
        wrong(7, "'\\u11111", "'\\u1111", "'\\U0010g");
        wrong(8, "'\\U0000d8", "'\\U0000df");
        wrong(11, "'\\U0010ffff", "'\\U0010fffff");
        wrong(3, Kit.utf8("'\u00e9"), Kit.utf8("'\u00e9\u00e9'"));
    }

    private static void strings() {
        fine("\"\"", 2);
        fine("\"a'b`c\"", 2);
        fine("\"\\\"\"", 2);
        fine("\"\\a\\b\\f\\n\\r\\t\\v\\\\\\000\\xff\\u20ac\\U0010FFFF\"", 2);
        fine("\"\r\t\1\177\"", 2);
        fine("\"// /*\"", 2);
        fine("\"a\"\"b\"", 3);
        wrong(1, "\"", "\"\n\"", "\"\0\"", "\"\u00ff\"");
        wrong(2, "\"a", "\"a\n", "\"\\", "\"\\'\"", "\"\\4", "\"\\\n", "\"\\z");
        wrong(4, "\"\\ud8", "\"\\x1\"", "\"\\U01");
        wrong(2, "\"\u00c3\"", "\"\u00e2\"");
        wrong(3, "\"\u00e2\u0082\"", "\"\u00f0\u0090");
    }

    private static void rawStrings() {
        fine("``", 2);
        fine("`a\n\\\r'\"\n`", 2);
        fine("`// /*`", 2);
        wrong(1, "`", "`\0`", "`\u00c1\u0081`");
        wrong(3, "`a\n");
        wrong(2, "`\u00c3`", "`\n\0");
    }

    private static void utf8() {
        for (String open : new String[] {"//", "/*", "\" ", "` "}) {
            String close = open.equals("//") ? "" : open.equals("/*") ? "*/" : open.substring(0, 1);
            int tokens = open.startsWith("/") ? 0 : 2;
            for (String good : new String[] {"\u00c2\u0080", "\u00df\u00bf", "\u00e0\u00a0\u0080", "\u00ed\u009f\u00bf",
                "\u00ee\u0080\u0080", "\u00ef\u00bb\u00bf", "\u00f0\u0090\u0080\u0080", "\u00f4\u008f\u00bf\u00bf", "\177"}) {
                fine(open + good + close, tokens);
            }
            for (String bad : new String[] {"\u0080", "\u00bf", "\u00c0\u0080", "\u00c1\u00bf", "\u00f5\u0080", "\u00f8", "\u00ff"}) {
                wrong(2, open + bad);
            }
            for (String bad : new String[] {"\u00c2\u007f", "\u00c2\u00c0", "\u00e0\u009f", "\u00ed\u00a0", "\u00f0\u008f",
                "\u00f4\u0090", "\u00e1\u00c0", "\u00e1", "\u00c2"}) {
                wrong(3, open + bad);
            }
            wrong(4, open + "\u00e0\u00a0A", open + "\u00f4\u008f", open + "\u00f1\u0080\u00c0");
            wrong(5, open + "\u00f4\u008f\u00bf", open + "\u00f0\u0090\u0080\u00ff");
        }
    }

    private static void signs() {
        fine(".", 1);
        fine("..", 2);
        fine("...", 1);
        fine("....", 2);
        fine(".....", 3);
        fine("..5", 3);
        fine("...5", 3);
        fine("+++", 2);
        fine("<<<", 2);
        fine("<<==", 2);
        fine("&^&^=", 2);
        fine("&&^", 2);
        fine("<-<--", 3);
        fine("<=>", 2);
        fine(":==", 2);
        fine("!==", 2);
        fine("/=/", 2);
        fine("~=", 2);
        fine("./", 2);
    }

    private static void semicolons() {
        for (String last : new String[] {"a", "1", "1.", "'a'", "\"a\"", "`a`", "break", "continue", "fallthrough",
            "return", "++", "--", ")", "]", "}"}) {
            fine(last, 2);
            fine(last + "\n", 2);
            fine(last + " //\n", 2);
            fine(last + " /*\n*/", 2);
            fine(last + " /**/", 2);
            fine(last + " /**/ +", 2);
            fine(last + " /*\n*/ +", 3);
            fine(last + "\n\n\n+", 3);
            fine(last + ";\n", 2);
        }
        for (String last : new String[] {"+", "(", "[", "{", ",", ";", ".", ":", "...", "case", "var", "if", "goto", "="}) {
            fine(last, 1);
            fine(last + "\n", 1);
            fine(last + " //\n", 1);
            fine(last + " /*\n*/", 1);
        }
    }

    /** Needs more calls than an object is promised for, but the limit is a promise, too. */
    private static void tokensAreLimited() {
        fine("+ ".repeat(16384), 16384);
        fine("+ ".repeat(16384) + "// more", 16384);
        wrong(32768, "+ ".repeat(16384) + "+", "+ ".repeat(16384) + "abc", "+ ".repeat(16384) + "#", "+ ".repeat(16384) + "/");
        wrong(32767, "+ ".repeat(16383) + "a");
        wrong(32768, "+ ".repeat(16383) + "a \n");
        wrong(32768, "+ ".repeat(16383) + "a // b", "+ ".repeat(16383) + "a ;;");
        Kit.dueScan("+ ".repeat(16383) + "a /*\n*/ ", -1 - 32768);
        fine("+ ".repeat(16382) + "a\n", 16384);
        fine("a\n".repeat(8192), 16384);
        wrong(16384, "a\n".repeat(8192) + "b");
        wrong(40, "+ ".repeat(20) + "# " + "+ ".repeat(16384));
    }

    private static void countStaysUntilTheNextScan() {
        SourceTokens x = new SourceTokens();
        Kit.feed(x, "a + b");
        Kit.due("scan()", x.scan(), 4);
        Kit.due("count()", x.count(), 4);
        Kit.feed(x, "# # #");
        x.end(3);
        Kit.due("count() after a feed", x.count(), 4);
        Kit.dueText("token 2 after a feed", Kit.value(x, 2), "b");
        Kit.due("scan() of an error", x.scan(), -1);
        Kit.due("count() after an error", x.count(), 0);
        Kit.due("names() after an error", x.names(), 0);
        Kit.due("firstOf(0) after an error", x.firstOf(0), -1);
        Kit.dueThrow("token(0, 0) after an error", () -> x.token(0, 0));
        Kit.feed(x, "c");
        Kit.due("scan() of a NAME", x.scan(), 2);
        Kit.due("scan() again", x.scan(), 0);
        Kit.due("count() of no text", x.count(), 0);
        Kit.due("names() of no text", x.names(), 0);
    }
}
