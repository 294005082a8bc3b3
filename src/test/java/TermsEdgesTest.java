/** The boundary cases that the document's Terms name, a sentence after the other. */
public final class TermsEdgesTest {
    private static final int FULL = Kit.MAX_TEXT;

    public static void main(String[] args) {
        fullTexts();
        tokensAreAsLongAsCanBe();
        whatStandsBetweenTokens();
        lineComments();
        longComments();
        bytesAbove127();
        noughtStandsNowhere();
        names();
        words();
        ints();
        basesOfInts();
        lowLines();
        floats();
        nothingJustBehindANumber();
        runes();
        strings();
        rawStrings();
        plainCharacters();
        escapes();
        bytesByDigits();
        codesByDigits();
        causesOfSemicolons();
        semicolonsComeOnce();
        placesOfSemicolons();
        errors();
        tooManyTokens();
        Kit.finish();
    }

    private static void fine(int tokens, String... texts) {
        for (String text : texts) {
            Kit.dueScan(text, tokens);
        }
    }

    private static void wrong(int place, String... texts) {
        Kit.dueError(place, texts);
    }

    private static String hex(int digits, int value) {
        return String.format("%0" + digits + "x", value);
    }

    private static String utf8(int code) {
        return Kit.utf8(new String(Character.toChars(code)));
    }

    /** Needs more calls than an object is promised for, as do all full texts. */
    private static void fullTexts() {
        Kit.sentence("THE TEXT is at most 65536 bytes");
        fine(0, " ".repeat(FULL), "\n".repeat(FULL), "//" + "/".repeat(FULL - 2), "/*" + "*".repeat(FULL - 4) + "*/",
                "/**/".repeat(FULL / 4));
        fine(2, "a".repeat(FULL), "9".repeat(FULL), "0x" + "f".repeat(FULL - 2), "0".repeat(FULL),
                "1" + "_1".repeat(FULL / 2 - 1) + "1", "." + "0".repeat(FULL - 1), "1e" + "9".repeat(FULL - 2),
                "\"" + "s".repeat(FULL - 2) + "\"",
                "`" + "\n".repeat(FULL - 2) + "`", "\"" + "\\\\".repeat(FULL / 2 - 1) + "\"", " ".repeat(FULL - 3) + "'a'");
        SourceTokens name = Kit.scanned("a".repeat(FULL));
        Kit.due("length of a NAME of 65536 bytes", name.token(0, 4), FULL);
        Kit.due("how many bytes it has", name.token(0, 8), FULL);
        Kit.due("its last byte", name.byteOf(0, FULL - 1), 'a');
        Kit.dueThrow("the byte behind", () -> name.byteOf(0, FULL));
        Kit.due("place of the semicolon", name.token(1, 1), FULL);
        Kit.due("column of the semicolon", name.token(1, 3), FULL + 1);
        SourceTokens last = Kit.scanned("\n".repeat(FULL - 1) + "a");
        Kit.dueText("lines behind 65535 newlines", Kit.facts(last, 2), "65536 65536");
        Kit.dueText("columns behind 65535 newlines", Kit.facts(last, 3), "1 2");
        Kit.dueScan("\"" + "s".repeat(FULL - 1), -1 - FULL);
        Kit.dueScan("`" + "s".repeat(FULL - 1), -1 - FULL);
        Kit.dueScan("/*" + "*".repeat(FULL - 2), -1 - FULL);
        Kit.dueScan(" ".repeat(FULL - 1) + "#", -1 - (FULL - 1));
    }

    private static void tokensAreAsLongAsCanBe() {
        Kit.sentence("Its TOKENS are found from its beginning, each as long as can be");
        Kit.dueFacts("<<<<===<-<=<", 0, "48 59 67 64 74 68");
        Kit.dueFacts(">>>>===>=>", 0, "49 60 67 75 69");
        Kit.dueFacts("&^&^=&&&=&", 0, "50 61 62 56 45");
        Kit.dueFacts("|||=|", 0, "63 57 46");
        Kit.dueFacts("+++=+", 0, "65 51 40");
        Kit.dueFacts("---=-", 0, "66 52 41");
        Kit.dueFacts("*=*/=/%=%^=^", 0, "53 42 54 43 55 44 58 47");
        Kit.dueFacts("====!==!~=:=:", 0, "67 67 73 70 71 72 70 76 87");
        Kit.dueFacts(". .. ... .... .....", 0, "86 86 86 77 77 86 77 86 86");
        Kit.dueFacts("([{,;}])", 0, "78 80 82 84 85 83 81 79 85");
        Kit.dueFacts("breaks", 0, "1 85");
        Kit.dueFacts("a1b", 4, "3 0");
        Kit.dueFacts("1.5.5", 4, "3 2 0");
        Kit.dueFacts("1..5", 4, "2 2 0");
        Kit.dueFacts("..5", 0, "86 3 85");
        Kit.dueFacts("...5", 0, "77 2 85");
    }

    private static void whatStandsBetweenTokens() {
        Kit.sentence("between them stand any blanks, tabs and carriage returns (32, 9, 13), NEWLINES (10) and COMMENTS");
        fine(0, "", " ", "\t", "\r", "\n", " \t\r\n \t\r\n", "//", "/**/");
        for (String between : new String[] {" ", "\t", "\r", "/**/", " \t\r/* */ "}) {
            fine(3, "a" + between + "b");
        }
        fine(4, "a\nb", "a//\nb", "a/*\n*/b");
        for (int value = 0; value < 256; value++) {
            boolean isMore = value == '\t' || value == '\n' || value == '\r' || value > ' ' && value < 127;
            if (value != ' ' && (!isMore || value == '#' || value == '$' || value == '?' || value == '@' || value == '\\')) {
                wrong(1, ";" + (char) value);
            }
        }
    }

    private static void lineComments() {
        Kit.sentence("// up to a newline (which is not part of it) or the end");
        fine(0, "//", "///", "//\n", "///*\n", "//*/", "//\r", "// \" ' ` \\ # \u007f \u0001");
        fine(2, "//\na", "//*\na", "//\n//\na", "// b\\\na");
        Kit.dueFacts("//\na", 1, "3 4");
        Kit.dueFacts("//\na", 2, "2 2");
        Kit.dueFacts("a//\n//\nb", 2, "1 1 3 3");
    }

    private static void longComments() {
        Kit.sentence("/ and * at once, up to the next * (another one) that has a / at once behind it");
        fine(0, "/**/", "/***/", "/****/", "/*/*/", "/*//*/", "/* * / */", "/*/**/", "/*\n//*/", "/*\"*/");
        fine(1, "/**/*", "/**//", "/***//", "/**/;");
        fine(2, "/**/*/", "/ * ", "/***/*/");
        wrong(2, "/*");
        wrong(3, "/*/", "/**");
        wrong(4, "/* /", "/***", "/*\n*");
        wrong(5, "/** /", "/*\n\n/");
    }

    private static void bytesAbove127() {
        String[][] rooms = {{"'", "'"}, {"\"", "\""}, {"`", "`"}, {"//", ""}, {"/*", "*/"}};
        for (String[] room : rooms) {
            int in = room[0].length();
            int tokens = in == 1 ? 2 : 0;
            Kit.sentence("bytes above 127 must be UTF-8 (as short as can be, no surrogates, up to 10FFFF)");
            for (int code : new int[] {0x7F, 0x80, 0x7FF, 0x800, 0xFFF, 0x1000, 0xCFFF, 0xD000, 0xD7FF, 0xE000, 0xFFFF, 0x10000,
                0x3FFFF, 0x40000, 0xFFFFF, 0x100000, 0x10FFFF}) {
                fine(tokens, room[0] + utf8(code) + room[1]);
            }
            wrong(in, room[0] + "\u0080", room[0] + "\u00bf", room[0] + "\u00c0\u0080", room[0] + "\u00c1\u00bf",
                    room[0] + "\u00f5\u0080\u0080\u0080", room[0] + "\u00ff");
            wrong(in + 1, room[0] + "\u00e0\u009f\u00bf", room[0] + "\u00f0\u008f\u00bf\u00bf", room[0] + "\u00ed\u00a0\u0080",
                    room[0] + "\u00ed\u00bf\u00bf", room[0] + "\u00f4\u0090\u0080\u0080", room[0] + "\u00c2\u007f",
                    room[0] + "\u00df\u00c0", room[0] + "\u00ef" + room[1], room[0] + "\u00c2\n");
            wrong(in + 2, room[0] + "\u00e0\u00a0\u007f", room[0] + "\u00ef\u00bf\u00c0", room[0] + "\u00f4\u008f" + room[1]);
            wrong(in + 3, room[0] + "\u00f0\u0090\u0080\u007f", room[0] + "\u00f4\u008f\u00bf\u00c0",
                    room[0] + "\u00f3\u00bf\u00bf" + room[1]);
            Kit.dueScan(room[0] + "\u00c2", -1 - (in + 1));
            Kit.dueScan(room[0] + "\u00e1\u0080", -1 - (in + 2));
            Kit.dueScan(room[0] + "\u00f1\u0080\u0080", -1 - (in + 3));
        }
        Kit.sentence("elsewhere there are none");
        for (int value = 128; value < 256; value++) {
            wrong(0, String.valueOf((char) value));
            wrong(1, "a" + (char) value, "1" + (char) value, " " + (char) value, "+" + (char) value, "\n" + (char) value);
        }
        wrong(0, Kit.utf8("\u00e9"), Kit.utf8("\ufeffa"));
    }

    private static void noughtStandsNowhere() {
        Kit.sentence("0 stands nowhere");
        wrong(0, "\0");
        wrong(1, "a\0", "1\0", "+\0", " \0", "\n\0", "'\0'", "\"\0\"", "`\0`");
        wrong(2, "//\0", "/*\0*/", "'\\\0'", "'a\0", "0x\0");
    }

    private static void names() {
        Kit.sentence("NAME: a letter a .. z, A .. Z or _ and any letters, digits 0 .. 9 and _ behind");
        for (String name : new String[] {"a", "z", "A", "Z", "_", "__", "_0", "a0", "z9", "azAZ_09"}) {
            Kit.dueFacts(name, 0, "1 85");
            Kit.dueFacts(name, 4, name.length() + " 0");
        }
        wrong(1, "a@", "a#", "a$", "a\u007f", "a\u00aa");
        Kit.dueFacts("a[b{c/d:e", 0, "1 80 1 82 1 43 1 87 1 85");
    }

    private static void words() {
        Kit.sentence("but the 25 WORDS .. are none");
        String[] words = ("break case chan const continue default defer else fallthrough for func go goto if import"
                + " interface map package range return select struct switch type var").split(" ");
        for (int n = 0; n < words.length; n++) {
            SourceTokens x = Kit.scanned(words[n]);
            Kit.due("kind of " + words[n], x.token(0, 0), 10 + n);
            Kit.due("names() of " + words[n], x.names(), 0);
            for (String name : new String[] {words[n] + "s", words[n] + "0", "_" + words[n], words[n].toUpperCase(),
                words[n].substring(1) + "x"}) {
                Kit.dueFacts(name, 0, "1 85");
            }
        }
        Kit.dueFacts("breakcase", 0, "1 85");
        Kit.dueFacts("g", 0, "1 85");
        Kit.dueFacts("got", 0, "1 85");
    }

    private static void ints() {
        Kit.sentence("INT: 0, or 1 .. 9 and digits behind; 0 and digits 0 .. 7 behind");
        for (String one : new String[] {"0", "1", "9", "10", "19", "90", "00", "01", "07", "0777"}) {
            Kit.dueFacts(one, 0, "2 85");
        }
        wrong(2, "08 ", "09)", "08", "0_ ");
        wrong(3, "008", "019;", "078\n");
        Kit.sentence("0b or 0B and 0 or 1, 0o or 0O and 0 .. 7, 0x or 0X and 0 .. 9 a .. f A .. F, of these one at least");
        for (String one : new String[] {"0b0", "0b1", "0B0", "0B1", "0o0", "0o7", "0O0", "0O7", "0x0", "0x9", "0xa",
            "0xf", "0xA", "0xF", "0X0"}) {
            Kit.dueFacts(one, 0, "2 85");
        }
        for (String start : new String[] {"0b", "0B", "0o", "0O", "0x", "0X"}) {
            wrong(2, start, start + " ", start + "\n", start + ".", start + "g", start + "G", start + "+");
        }
        wrong(2, "0b2", "0B9", "0o8", "0O9", "0x@", "0x/", "0x:", "0x`", "0ba", "0oa");
    }

    private static void basesOfInts() {
        Kit.sentence("(base 8) .. (base 2) .. (8) .. (16)");
        Kit.dueFacts("0 1 9 10 00 01 0_1 07 0b0 0B1 0o0 0O7 0x0 0XF 0. 0e0 00. .0 'a' \"0\" a if +", 7,
                "10 10 10 10 8 8 8 8 2 2 8 8 16 16 0 0 0 0 0 0 0 0 0");
    }

    private static void lowLines() {
        Kit.sentence("One _ may stand between two digits, and behind the first 0 or the letter if a digit follows");
        for (String one : new String[] {"1_0", "1_2_3_4", "0_0", "0_7", "0_7_7", "0b_0", "0B1_0", "0o_7", "0O7_7", "0x_f",
            "0XF_F", "0x_0_0"}) {
            Kit.dueFacts(one, 0, "2 85");
        }
        wrong(2, "1_", "1__0", "1_a", "1_ 0", "0_", "0__7", "0_b1", "0_x1", "0_ ", "1_.", "1_e");
        wrong(3, "0b_", "0b__1", "0o_ ", "0x__1", "0x_g", "0x_.", "0b_2", "0o_8");
        wrong(4, "0b1_", "0b1_2", "0o1_8", "0x1__1", "0x1_ ", "1_0_");
        Kit.dueFacts("_0 _1", 0, "1 1 85");
    }

    private static void floats() {
        Kit.sentence("FLOAT: digits 0 .. 9 (one _ between two), a . and digits or none behind; or . and digits; .. EXPONENT");
        for (String one : new String[] {"0.", "9.", "0.0", "00.", "08.", "09.9", "0_8.", "1_0.0_1", ".0", ".9", ".0_0", "0e0",
            "08e0", "1E9", "1e+0", "1E-9", "1.e0", "1.5e0", ".5e0", ".5E+5", "1e0_0", "1e00"}) {
            Kit.dueFacts(one, 0, "3 85");
            Kit.dueFacts(one, 4, one.length() + " 0");
        }
        Kit.dueFacts(".", 0, "86");
        Kit.dueFacts(".e5", 0, "86 1 85");
        Kit.dueFacts("._5", 0, "86 1 85");
        wrong(2, "1e", "1E ", "1e.", "1e_", "1ex", "1._", "1_.", "0e");
        wrong(3, "1e+", "1e- ", "1e+-", "1e+_", "1.e", "1.e.", ".5e", ".5_", "1e+x");
        wrong(4, "1e1_", "1.0_", "1.e+", "1.0__0", "1.0_e", "1e1__1");
        Kit.sentence("One of the two it is that has . or an exponent");
        Kit.dueFacts("1 1. 1e1 01 01. 01e1 0x1e1 0xe", 0, "2 3 3 2 3 3 2 2 85");
    }

    private static void nothingJustBehindANumber() {
        Kit.sentence("No letter, digit or _ stands just behind an INT or a FLOAT");
        for (String number : new String[] {"0", "1", "07", "0b1", "0o7", "0xf", "1.", "1.5", ".5", "1e5", "1.5e-5"}) {
            for (String behind : new String[] {"g", "G", "z", "Z", "h1"}) {
                wrong(number.length(), number + behind);
            }
            for (String behind : new String[] {"+", "(", "[", "]", "'a'", "\"a\"", "`a`", "/**/", "//", "\n", "~"}) {
                Kit.due("the length of the token before " + behind, Kit.scanned(number + behind).token(0, 4), number.length());
            }
        }
        wrong(1, "0a", "0f", "1b1", "1x1", "1o1", "2a");
        wrong(2, "1._0", "1.f", "1.x", ".5a", ".5A");
        for (String number : new String[] {"1.5", "1e5", "1_0", "017"}) {
            wrong(3, number + "a", number + "A", number + "f", number + "F");
        }
        wrong(3, "0b12", "0b19", "0o78", "0o79", "0b1e", "0xfg", "0x1p", "0x1z");
    }

    private static void runes() {
        Kit.sentence("RUNE: ', one character, '");
        fine(2, "'a'", "' '", "'\"'", "'`'", "'\\''", "'\\\\'", "'\t'", "'\r'");
        wrong(1, "'", "''", "'''", "'\n'");
        wrong(2, "'a", "'ab'", "'a\n", "'a ", "'\\", "'  '");
        wrong(3, "'\\n", "'\\na'", "'\\'", "'\u00c3\u00a9", "'\u00c3\u00a9\u00c3\u00a9'");
        Kit.dueFacts("'a''b'", 0, "4 4 85");
        Kit.dueFacts("'a'", 8, "0 0");
    }

    private static void strings() {
        Kit.sentence("STRING: \", any characters, \"");
        fine(2, "\"\"", "\"a\"", "\"'\"", "\"`\"", "\"\\\"\"", "\"//\"", "\"/*\"", "\" \t\r\"");
        Kit.dueFacts("\"\"\"\"", 0, "5 5 85");
        Kit.dueFacts("\"\"", 8, "0 0");
        Kit.dueFacts("\"\"", 4, "2 0");
        wrong(1, "\"", "\"\n\"");
        wrong(2, "\"a", "\"a\n", "\"\\", "\"\r\n");
        wrong(3, "\"\\\"", "\"\\\\", "\"\"\"");
    }

    private static void rawStrings() {
        Kit.sentence("or ` , any characters but that, ` (a RAW one, in which carriage returns do not count)");
        fine(2, "``", "`\n`", "`\\`", "`\"'`", "`//`", "`\n\n/*`");
        Kit.dueFacts("````", 0, "5 5 85");
        wrong(1, "`");
        wrong(2, "`a", "`\n", "`\\");
        wrong(3, "```");
        for (String raw : new String[] {"`\r`", "`\r\r\r`", "``"}) {
            Kit.dueFacts(raw, 8, "0 0");
            Kit.dueFacts(raw, 4, raw.length() + " 0");
        }
        Kit.dueText("`a\\r\\n\\rb`", Kit.value(Kit.scanned("`\ra\r\n\rb\r`"), 0), "a\nb");
        Kit.dueText("`\\n` as \\ and n", Kit.value(Kit.scanned("`\\r\\n\\x41`"), 0), "\\r\\n\\x41");
        Kit.dueText("a carriage return in a STRING that is not raw", Kit.value(Kit.scanned("\"\r\""), 0), "\r");
        Kit.dueFacts("`\n\r\n`a", 2, "1 3 3");
        Kit.dueFacts("`\n\r\n`a", 3, "1 2 3");
    }

    private static void plainCharacters() {
        Kit.sentence("Not raw, a character is UTF-8 that is no newline, no \\ and not the sign that ends it");
        for (int value = 1; value < 128; value++) {
            boolean isPlain = value != '\n' && value != '\\';
            if (isPlain && value != '\'') {
                Kit.due("number() of the RUNE of " + value, Kit.scanned("'" + (char) value + "'").number(0), value);
            }
            if (isPlain && value != '"') {
                SourceTokens x = Kit.scanned("\"" + (char) value + "\"");
                Kit.dueText("the STRING of " + value, Kit.value(x, 0), String.valueOf((char) value));
            }
        }
        wrong(1, "'\n", "''", "\"\n");
    }

    private static void escapes() {
        Kit.sentence("or \\ and one of a b f n r t v (7, 8, 12, 10, 13, 9, 11) \\ or that sign");
        String letters = "abfnrtv\\";
        int[] values = {7, 8, 12, 10, 13, 9, 11, 92};
        for (int n = 0; n < values.length; n++) {
            String escape = "\\" + letters.charAt(n);
            Kit.due("number() of '" + escape + "'", Kit.scanned("'" + escape + "'").number(0), values[n]);
            Kit.due("the byte of \"" + escape + "\"", Kit.scanned("\"" + escape + "\"").byteOf(0, 0), values[n]);
        }
        Kit.due("number() of '\\''", Kit.scanned("'\\''").number(0), '\'');
        Kit.due("the byte of \"\\\"\"", Kit.scanned("\"\\\"\"").byteOf(0, 0), '"');
        for (int value = 0; value < 256; value++) {
            char c = (char) value;
            if ("abfnrtv\\xuU0123".indexOf(c) < 0) {
                if (c != '\'') {
                    wrong(2, "'\\" + c);
                }
                if (c != '"') {
                    wrong(2, "\"\\" + c);
                }
            }
        }
    }

    private static void bytesByDigits() {
        Kit.sentence("or \\ and three digits 0 .. 7 (a byte, to 377), \\x and two of base 16 (a byte)");
        for (int value = 0; value < 256; value++) {
            for (String escape : new String[] {"\\" + String.format("%03o", value), "\\x" + hex(2, value),
                "\\x" + hex(2, value).toUpperCase()}) {
                Kit.due("number() of '" + escape + "'", Kit.scanned("'" + escape + "'").number(0), value);
                SourceTokens x = Kit.scanned("\"" + escape + "\"");
                Kit.due("how many bytes \"" + escape + "\" has", x.token(0, 8), 1);
                Kit.due("the byte of \"" + escape + "\"", x.byteOf(0, 0), value);
            }
        }
        wrong(2, "'\\400'", "'\\777'", "'\\8", "'\\9");
        wrong(3, "'\\0'", "'\\08", "'\\3", "'\\x'", "'\\x", "'\\xg", "'\\x:", "'\\x@", "'\\x/", "'\\x`", "\"\\0\"");
        wrong(4, "'\\00'", "'\\008", "'\\37", "'\\378", "'\\x0'", "'\\x0g", "'\\xf", "\"\\xf\"");
        wrong(5, "'\\0000'", "'\\377", "'\\3777", "'\\x000'", "'\\xff");
        Kit.dueText("digits behind the byte", Kit.value(Kit.scanned("\"\\0000\\x414\""), 0), "\0" + "0A4");
    }

    private static void codesByDigits() {
        Kit.sentence("\\ with u and four, \\U and eight (a code, no surrogate, to 10FFFF); of codes as UTF-8");
        for (int code : new int[] {0, 1, 0x7F, 0x80, 0xFF, 0x7FF, 0x800, 0xFFF, 0x1000, 0xCFFF, 0xD000, 0xD7FF, 0xE000, 0xFFFF,
            0x10000, 0x1D800, 0x1DFFF, 0xFFFFF, 0x100000, 0x10D800, 0x10FFFF}) {
            checkCode("\\U" + hex(8, code), code);
            checkCode("\\U" + hex(8, code).toUpperCase(), code);
            if (code <= 0xFFFF) {
                checkCode("\\u" + hex(4, code), code);
            }
        }
        wrong(3, "'\\u'", "'\\u", "'\\ug", "'\\U'", "'\\U1", "'\\Uf");
        wrong(4, "'\\ud8", "'\\ud800'", "'\\udfff'", "'\\uDb", "'\\u0'", "'\\U01", "'\\U0'");
        wrong(5, "'\\u00'", "'\\U002", "'\\U00f");
        wrong(6, "'\\u000'", "'\\U0011", "'\\U00110000'", "'\\U001f");
        wrong(7, "'\\u00000'", "'\\ud7ff", "'\\U0010'", "'\\U0000'");
        wrong(8, "'\\U0000d800'", "'\\U0000dfff'", "'\\U0000D8", "'\\U0000DF");
        wrong(10, "'\\U0010fff'", "'\\U0000000'");
        wrong(11, "'\\U000000000'", "'\\U0010ffff", "'\\U0000d7ff");
    }

    private static void checkCode(String escape, int code) {
        Kit.due("number() of '" + escape + "'", Kit.scanned("'" + escape + "'").number(0), code);
        Kit.dueText("the bytes of \"" + escape + "\"", Kit.value(Kit.scanned("\"" + escape + "\""), 0), utf8(code));
    }

    private static void causesOfSemicolons() {
        Kit.sentence("A SEMICOLON is put in where a newline, a comment with a newline in it or with // ,"
                + " or the end of the text comes behind a token");
        String[] causes = {"\n", " \n", "//", "// a", "/*\n*/", "/* a\n\n*/", "", " ", "\t\r", "/**/", "/* // */"};
        for (String last : new String[] {"a", "_", "0", "0.", ".0", "'a'", "\"\"", "``", "break", "continue", "fallthrough",
            "return", "++", "--", ")", "]", "}"}) {
            for (String cause : causes) {
                Kit.due("the kind behind " + last + Kit.shown(cause), Kit.scanned(last + cause).token(1, 0), 85);
                Kit.due("whether it was put in", Kit.scanned(last + cause).token(1, 5), 1);
            }
            fine(2, last + " ;", last + " /**/ ;", last + "/* // */;");
            fine(3, last + "\n;", last + "//\n;", last + "/*\n*/;");
        }
        String others = "case chan const default defer else for func go goto if import interface map package range select struct"
                + " switch type var + - * / % & | ^ << >> &^ += -= *= /= %= &= |= ^= <<= >>= &^= && || <- == < > ="
                + " ! ~ != <= >= := ... ( [ { , ; . :";
        for (String last : others.split(" ")) {
            for (String cause : causes) {
                boolean isCommentToo = last.equals("/") && cause.startsWith("/");
                fine(1, isCommentToo ? last + " " + cause : last + cause);
            }
        }
        fine(0, "", "\n", "//", "/*\n*/");
    }

    private static void semicolonsComeOnce() {
        Kit.sentence("with no other token between");
        fine(2, "a\n\n\n", "a//\n//\n", "a/*\n*/\n//", "a\n ", "a;\n", "a;//", "a;/*\n*/", "a;");
        Kit.dueFacts("a\n\nb", 5, "0 1 0 1");
        Kit.dueFacts("a+\n", 5, "0 0");
        Kit.dueFacts("a;\n\n", 5, "0 0");
        Kit.dueFacts("a /**/ + /**/ \n", 5, "0 0");
    }

    private static void placesOfSemicolons() {
        Kit.sentence("a token of length 0 at the place of that newline or comment, or at the end");
        Kit.dueFacts("a \n", 1, "0 2");
        Kit.dueFacts("a \r\n", 1, "0 3");
        Kit.dueFacts("a // b\n", 1, "0 2");
        Kit.dueFacts("a /* b\n */ \n", 1, "0 2");
        Kit.dueFacts("a /* b */ \n", 1, "0 10");
        Kit.dueFacts("a /* b */ /*\n*/", 1, "0 10");
        Kit.dueFacts("a /* b */ //", 1, "0 10");
        Kit.dueFacts("a \t ", 1, "0 4");
        Kit.dueFacts("a /* b */ ", 1, "0 10");
        Kit.dueFacts("`\n`/*\n*/", 2, "1 2");
        Kit.dueFacts("`\n`/*\n*/", 3, "1 2");
        Kit.dueFacts("a /* b\n */ c", 4, "1 0 1 0");
        Kit.dueFacts("a /* b\n */ c", 2, "1 1 2 2");
        Kit.dueFacts("a /* b\n */ c", 3, "1 3 5 6");
    }

    private static void errors() {
        Kit.sentence("AN ERROR is the first byte that can't stand there, whatever came behind it");
        wrong(0, "#", "## a", "\\n");
        wrong(2, "a #", "a # #");
        wrong(3, "\"a\"?");
        wrong(4, "a + #");
        Kit.sentence("(or the end, when the text must not end there)");
        for (String open : new String[] {"'", "'a", "\"", "\"a", "`", "`a\n", "/*", "/* *", "0x", "0b", "0o", "1_", "0_", "1e", "1e+",
            "08", "09_", "'\\", "'\\x", "'\\u12", "\"\u00e2", "//\u00e2", "a /*\n"}) {
            Kit.dueScan(open, -1 - open.length());
        }
        Kit.sentence("be the text as long as it may");
        for (String open : new String[] {"'\\U0000", "/*", "\"", "0x", "08", "'\u00f0\u0090"}) {
            Kit.dueScan(" ".repeat(FULL - open.length()) + open, -1 - FULL);
        }
    }

    /** More tokens than an object can be fed in the calls that it is promised for. */
    private static void tooManyTokens() {
        Kit.sentence("or the 16385th token's first place");
        String nearlyFull = "+ ".repeat(Kit.MAX_TOKENS - 1);
        String full = nearlyFull + "+ ";
        fine(Kit.MAX_TOKENS, full, full + "\n//", full + "/*\n*/", ";".repeat(Kit.MAX_TOKENS), "a\n".repeat(Kit.MAX_TOKENS / 2),
                nearlyFull + "+", nearlyFull.substring(2) + "a", nearlyFull + ";");
        int end = full.length();
        wrong(end, full + "+", full + "a", full + "1", full + "'a'", full + "\"a\"", full + "#", full + "abc def");
        Kit.dueScan(full + "\"abc", -1 - end);
        Kit.dueScan(full + "0x", -1 - end);
        Kit.dueScan(full + " \n ++", -1 - (end + 3));
        Kit.dueScan(";".repeat(Kit.MAX_TEXT), -1 - Kit.MAX_TOKENS);
        Kit.dueScan(nearlyFull + "a", -1 - (end - 1));
        Kit.dueScan(nearlyFull + "a \t", -1 - (end + 1));
        Kit.dueScan(nearlyFull + "a \n", -1 - end);
        Kit.dueScan(nearlyFull + "a // b", -1 - end);
        Kit.dueScan(nearlyFull + "a /*\n*/", -1 - end);
        Kit.dueScan(nearlyFull + "a /**/\n", -1 - (end + 4));
        Kit.dueScan("a\n".repeat(Kit.MAX_TOKENS / 2) + "\n\nb", -1 - (Kit.MAX_TOKENS + 2));
        Kit.dueScan("# " + full + "+", -1);
    }
}
