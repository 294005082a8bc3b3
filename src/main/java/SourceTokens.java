import java.util.Arrays;
import java.util.NoSuchElementException;

/**
 * Takes the text of a program apart: names, numbers, characters, strings, words of the language
 * and signs, with the semicolons that ends of lines stand for; or tells the first byte that can't
 * stand where it does.
 */
public final class SourceTokens {
    public static final int NONE = -1;

    private static final int MAX_TEXT = 65536;
    private static final int MAX_TOKENS = 16384;
    private static final int MAX_BITS = 512;
    private static final int BYTES_OF_A_FEED = 20;

    // Rows begin small and double, so that an object that is fed little stays small.
    private static final int FIRST_ROOM_FOR_BYTES = 256;
    private static final int FIRST_ROOM_FOR_TOKENS = 64;
    private static final int FIRST_ROOM_FOR_NAMES = 32;

    private static final int NAME = 1;
    private static final int INT = 2;
    private static final int FLOAT = 3;
    private static final int RUNE = 4;
    private static final int STRING = 5;
    private static final int FIRST_WORD = 10;
    private static final int BREAK = 10;
    private static final int CONTINUE = 14;
    private static final int FALLTHROUGH = 18;
    private static final int RETURN = 29;
    private static final int PLUS_PLUS = 65;
    private static final int MINUS_MINUS = 66;
    private static final int ROUND_CLOSE = 79;
    private static final int SQUARE_CLOSE = 81;
    private static final int CURLY_CLOSE = 83;
    private static final int SEMICOLON = 85;

    // The facts of a token; those up to BYTE_COUNT have the numbers that token() is asked by.
    private static final int KIND = 0;
    private static final int PLACE = 1;
    private static final int LINE = 2;
    private static final int COLUMN = 3;
    private static final int LENGTH = 4;
    private static final int PUT_IN = 5;
    private static final int NAME_NUMBER = 6;
    private static final int BASE = 7;
    private static final int BYTE_COUNT = 8;
    private static final int FIRST_BYTE = 9;
    private static final int RUNE_VALUE = 10;
    private static final int FACTS = 11;

    private final Text text;
    private final Tokens tokens;
    private final Scanner scanner;
    private final IntValue intValue;

    public SourceTokens() {
        text = new Text();
        tokens = new Tokens();
        scanner = new Scanner(text, tokens);
        intValue = new IntValue(tokens);
    }

    public boolean feed(int a, int b, int c, int d, int e) {
        if (!text.makeRoom(BYTES_OF_A_FEED)) {
            return false;
        }
        text.appendFour(a);
        text.appendFour(b);
        text.appendFour(c);
        text.appendFour(d);
        text.appendFour(e);
        return true;
    }

    public boolean end(int n) {
        return text.cutTo(n);
    }

    public int size() {
        return text.size;
    }

    public int scan() {
        scanner.begin();
        // Every turn passes one byte at least, so no text needs more turns than it may have bytes.
        for (int turn = 0; turn < MAX_TEXT && scanner.goesOn(); turn++) {
            if (!scanner.passBetweenTokens()) {
                scanner.readToken();
            }
        }
        int answer = scanner.finish();
        text.cutTo(0);
        return answer;
    }

    public int count() {
        return tokens.count;
    }

    public int token(int k, int what) throws NoSuchElementException {
        if (!tokens.has(k) || what < KIND || what > BYTE_COUNT) {
            throw new NoSuchElementException("no such token or what");
        }
        return tokens.fact(k, what);
    }

    public int byteOf(int k, int i) throws NoSuchElementException {
        int value = tokens.byteOfToken(k, i);
        if (value == NONE) {
            throw new NoSuchElementException("no such byte");
        }
        return value;
    }

    public long number(int k) throws NoSuchElementException {
        int kind = tokens.kindOf(k);
        if (kind == RUNE) {
            return tokens.fact(k, RUNE_VALUE);
        }
        if (kind != INT) {
            throw new NoSuchElementException("neither an INT nor a RUNE");
        }
        return intValue.lowBits(k);
    }

    public boolean fits(int k, int bits) throws NoSuchElementException {
        if (tokens.kindOf(k) != INT || bits < 0 || bits > MAX_BITS) {
            throw new NoSuchElementException("no INT, or no such number of bits");
        }
        return intValue.isBelowPowerOfTwo(k, bits);
    }

    public int names() {
        return tokens.names.known;
    }

    public int firstOf(int n) {
        return tokens.names.firstToken(n);
    }

    private static boolean isDigit(int c) {
        return c >= '0' && c <= '9';
    }

    private static boolean isLetter(int c) {
        return c >= 'a' && c <= 'z' || c >= 'A' && c <= 'Z' || c == '_';
    }

    private static boolean isNamePart(int c) {
        return isLetter(c) || isDigit(c);
    }

    /** What c is worth as a digit, NONE when it is no digit in the base. */
    private static int digitOf(int c, int base) {
        int worth = NONE;
        if (c >= '0' && c <= '9') {
            worth = c - '0';
        } else if (c >= 'a' && c <= 'f') {
            worth = c - 'a' + 10;
        } else if (c >= 'A' && c <= 'F') {
            worth = c - 'A' + 10;
        }
        return worth < base ? worth : NONE;
    }

    /** Whether one of the codes low .. high is one that UTF-8 may stand for. */
    private static boolean holdsCode(long low, long high) {
        return low <= 0x10FFFF && !(low >= 0xD800 && high <= 0xDFFF);
    }

    /** The bytes that were fed, and the place to which they are read. */
    private static final class Text {
        byte[] bytes = new byte[FIRST_ROOM_FOR_BYTES];
        int size = 0;
        int at = 0;
        int line = 1;
        int lineStart = 0;
        boolean failed = false;

        boolean makeRoom(int more) {
            if (size + more > MAX_TEXT) {
                return false;
            }
            if (size + more > bytes.length) {
                bytes = Arrays.copyOf(bytes, bytes.length * 2);
            }
            return size + more <= bytes.length;
        }

        void appendFour(int value) {
            for (int shift = 24; shift >= 0 && size < bytes.length; shift -= 8) {
                bytes[size] = (byte) (value >>> shift);
                size++;
            }
        }

        boolean cutTo(int n) {
            if (n < 0 || n > size) {
                return false;
            }
            size = n;
            return true;
        }

        void rewind() {
            at = 0;
            line = 1;
            lineStart = 0;
            failed = false;
        }

        int here() {
            return at >= 0 && at < size && at < bytes.length ? bytes[at] & 255 : NONE;
        }

        int next() {
            int place = at + 1;
            return place >= 0 && place < size && place < bytes.length ? bytes[place] & 255 : NONE;
        }

        void step() {
            if (here() == '\n') {
                line++;
                lineStart = at + 1;
            }
            at++;
        }

        /** The error is where the reading stands; NONE, for readers that answer a value. */
        int refuse() {
            failed = true;
            return NONE;
        }

        void refuseAt(int place) {
            at = place;
            failed = true;
        }

        /** Passes one character of UTF-8 that is not 0, and answers its code, or NONE. */
        int character() {
            int first = here();
            if (first < 128) {
                if (first <= 0) {
                    return refuse();
                }
                step();
                return first;
            }
            if (first < 0xC2 || first > 0xF4) {
                return refuse();
            }
            step();
            int left = first >= 0xF0 ? 3 : first >= 0xE0 ? 2 : 1;
            // What is below that would have been shorter.
            int least = left == 3 ? 0x10000 : left == 2 ? 0x800 : 0x80;
            int code = first & (0x3F >> left);
            for (; left > 0; left--) {
                int more = here();
                code = code << 6 | more & 0x3F;
                int low = code << 6 * (left - 1);
                int high = low + (1 << 6 * (left - 1)) - 1;
                if ((more & 0xC0) != 0x80 || high < least || !holdsCode(low, high)) {
                    return refuse();
                }
                step();
            }
            return code;
        }
    }

    /** What the tokens of the latest scan are. */
    private static final class Tokens {
        int[] facts = new int[FIRST_ROOM_FOR_TOKENS * FACTS];
        int count = 0;
        final ByteRow bytes = new ByteRow();
        final Names names = new Names();

        void clear() {
            count = 0;
            bytes.used = 0;
            names.clear();
        }

        boolean isFull() {
            return count >= MAX_TOKENS;
        }

        /** Adds a token of which nothing is known but its kind; the caller has asked isFull(). */
        void add(int kind) {
            if ((count + 1) * FACTS > facts.length) {
                facts = Arrays.copyOf(facts, facts.length * 2);
            }
            count++;
            for (int what = 0; what < FACTS; what++) {
                tellLast(what, 0);
            }
            tellLast(KIND, kind);
            tellLast(NAME_NUMBER, NONE);
        }

        void tellLast(int what, int value) {
            int place = (count - 1) * FACTS + what;
            if (place >= 0 && place < facts.length) {
                facts[place] = value;
            }
        }

        boolean has(int k) {
            return k >= 0 && k < count;
        }

        int fact(int k, int what) {
            if (!has(k) || what < 0 || what >= FACTS) {
                return NONE;
            }
            int place = k * FACTS + what;
            return place >= 0 && place < facts.length ? facts[place] : NONE;
        }

        int kindOf(int k) {
            return fact(k, KIND);
        }

        int byteOfToken(int k, int i) {
            boolean isThere = i >= 0 && i < fact(k, BYTE_COUNT);
            return isThere ? bytes.byteAt(fact(k, FIRST_BYTE) + i) : NONE;
        }
    }

    /** The bytes that byteOf() tells, of one token after the other. */
    private static final class ByteRow {
        byte[] row = new byte[FIRST_ROOM_FOR_BYTES];
        int used = 0;

        /** No token has more bytes than its text, so MAX_TEXT is enough for all. */
        void append(int value) {
            if (used >= row.length && row.length < MAX_TEXT) {
                row = Arrays.copyOf(row, row.length * 2);
            }
            if (used < row.length) {
                row[used] = (byte) value;
                used++;
            }
        }

        void appendCode(int code) {
            if (code < 0x80) {
                append(code);
                return;
            }
            if (code < 0x800) {
                append(0xC0 | code >> 6);
            } else {
                if (code < 0x10000) {
                    append(0xE0 | code >> 12);
                } else {
                    append(0xF0 | code >> 18);
                    append(0x80 | code >> 12 & 0x3F);
                }
                append(0x80 | code >> 6 & 0x3F);
            }
            append(0x80 | code & 0x3F);
        }

        int byteAt(int place) {
            return place >= 0 && place < used && place < row.length ? row[place] & 255 : NONE;
        }

        boolean areEqual(int one, int other, int length) {
            for (int i = 0; i < length; i++) {
                if (byteAt(one + i) != byteAt(other + i)) {
                    return false;
                }
            }
            return true;
        }
    }

    /** The different NAMES, found again by chains of those that have a hash's low bits in common. */
    private static final class Names {
        // A power of two, so that a mask makes a chain's number of every hash.
        static final int CHAINS = 512;

        final int[] heads = new int[CHAINS];
        int[] follower = new int[FIRST_ROOM_FOR_NAMES];
        int[] hashes = new int[FIRST_ROOM_FOR_NAMES];
        int[] firsts = new int[FIRST_ROOM_FOR_NAMES];
        int known = 0;

        Names() {
            Arrays.fill(heads, NONE);
        }

        void clear() {
            if (known > 0) {
                Arrays.fill(heads, NONE);
            }
            known = 0;
        }

        int firstToken(int n) {
            return n >= 0 && n < known && n < firsts.length ? firsts[n] : NONE;
        }

        /** The number of the NAME that token k, the latest, is; a new one when it is new. */
        int numberOf(Tokens tokens, int k, int hash) {
            int from = tokens.fact(k, FIRST_BYTE);
            int length = tokens.fact(k, BYTE_COUNT);
            int n = heads[hash & CHAINS - 1];
            for (int steps = 0; steps < known && n >= 0 && n < hashes.length && n < follower.length; steps++) {
                int first = firstToken(n);
                if (hashes[n] == hash && tokens.fact(first, BYTE_COUNT) == length
                        && tokens.bytes.areEqual(tokens.fact(first, FIRST_BYTE), from, length)) {
                    return n;
                }
                n = follower[n];
            }
            return add(k, hash);
        }

        int add(int k, int hash) {
            if (known >= firsts.length) {
                int room = firsts.length * 2;
                follower = Arrays.copyOf(follower, room);
                hashes = Arrays.copyOf(hashes, room);
                firsts = Arrays.copyOf(firsts, room);
            }
            if (known >= firsts.length || known >= hashes.length || known >= follower.length) {
                return NONE;
            }
            firsts[known] = k;
            hashes[known] = hash;
            follower[known] = heads[hash & CHAINS - 1];
            heads[hash & CHAINS - 1] = known;
            known++;
            return known - 1;
        }
    }

    /** Goes through the text and adds its tokens. */
    private static final class Scanner {
        // The words without anything between, and where each of them begins.
        static final String WORDS =
            "breakcasechanconstcontinuedefaultdeferelsefallthroughforfuncgogotoifimportinterfacemappackagerangereturnselectstructswitchtypevar";
        static final int[] WORD_AT = {0, 5, 9, 13, 18, 26, 33, 38, 42, 53, 56, 60, 62, 66, 68, 74,
            83, 86, 93, 98, 104, 110, 116, 122, 126, 129};

        final Text text;
        final Tokens tokens;
        final NumberReader numbers;
        final QuoteReader quotes;
        int startPlace = 0;
        int startLine = 1;
        int startColumn = 1;
        int startByte = 0;
        boolean wantsSemicolon = false;

        Scanner(Text text, Tokens tokens) {
            this.text = text;
            this.tokens = tokens;
            numbers = new NumberReader(text, tokens.bytes);
            quotes = new QuoteReader(text, tokens.bytes);
        }

        void begin() {
            tokens.clear();
            text.rewind();
            wantsSemicolon = false;
        }

        boolean goesOn() {
            return !text.failed && text.here() != NONE;
        }

        /** What scan() answers; the end of the text may stand for a semicolon, too. */
        int finish() {
            if (!text.failed) {
                markStart();
                endLine();
            }
            if (text.failed) {
                tokens.clear();
                return -1 - text.at;
            }
            return tokens.count;
        }

        /** Passes a comment, or one byte that only keeps tokens apart; false when there is none. */
        boolean passBetweenTokens() {
            markStart();
            int c = text.here();
            if (c == '\n') {
                if (endLine()) {
                    text.step();
                }
            } else if (c == ' ' || c == '\t' || c == '\r') {
                text.step();
            } else if (c == '/' && text.next() == '/') {
                passLineComment();
            } else if (c == '/' && text.next() == '*') {
                passLongComment();
            } else {
                return false;
            }
            return true;
        }

        void readToken() {
            int c = text.here();
            if (tokens.isFull()) {
                text.refuse();
            } else if (isLetter(c)) {
                readName();
            } else if (isDigit(c) || c == '.' && isDigit(text.next())) {
                putNumber(numbers.readNumber());
            } else if (c == '\'') {
                putRune(quotes.readRune());
            } else if (c == '"') {
                putString(quotes.readString());
            } else if (c == '`') {
                putString(quotes.readRaw());
            } else {
                readSign(c);
            }
        }

        private void markStart() {
            startPlace = text.at;
            startLine = text.line;
            startColumn = text.at - text.lineStart + 1;
            startByte = tokens.bytes.used;
        }

        private void passLineComment() {
            boolean goesOn = endLine();
            for (int n = 0; n < MAX_TEXT && goesOn; n++) {
                int c = text.here();
                goesOn = c != '\n' && c != NONE && text.character() != NONE;
            }
        }

        private void passLongComment() {
            text.step();
            text.step();
            for (int n = 0; n < MAX_TEXT; n++) {
                int c = text.here();
                if (c == '*' && text.next() == '/') {
                    text.step();
                    text.step();
                    return;
                }
                // The semicolon stands where the comment begins, whatever line of it this is.
                if (c == '\n' && !endLine() || text.character() == NONE) {
                    return;
                }
            }
        }

        private void readName() {
            int hash = 0;
            for (int n = 0; n < MAX_TEXT && isNamePart(text.here()); n++) {
                int c = text.here();
                hash = hash * 31 + c;
                tokens.bytes.append(c);
                text.step();
            }
            int word = wordKind();
            if (word != NONE) {
                put(word);
                return;
            }
            put(NAME);
            tokens.tellLast(NAME_NUMBER, tokens.names.numberOf(tokens, tokens.count - 1, hash));
        }

        private void putNumber(int base) {
            if (base != NONE) {
                put(base == NumberReader.NO_BASE ? FLOAT : INT);
                tokens.tellLast(BASE, base);
            }
        }

        private void putRune(int value) {
            if (value != NONE) {
                put(RUNE);
                tokens.tellLast(RUNE_VALUE, value);
            }
        }

        private void putString(boolean isRead) {
            if (isRead) {
                put(STRING);
            }
        }

        private void readSign(int c) {
            int kind = Signs.kindOfOne(c);
            if (kind == NONE) {
                text.refuse();
                return;
            }
            text.step();
            int two = c << 8 | text.here() & 255;
            int three = two << 8 | text.next() & 255;
            if (Signs.kindOfThree(three) != NONE) {
                kind = Signs.kindOfThree(three);
                text.step();
                text.step();
            } else if (Signs.kindOfTwo(two) != NONE) {
                kind = Signs.kindOfTwo(two);
                text.step();
            }
            put(kind);
        }

        /** Puts a semicolon in where the marked start is, if one is due; false when it is too many. */
        private boolean endLine() {
            if (!wantsSemicolon) {
                return true;
            }
            if (tokens.isFull()) {
                text.refuseAt(startPlace);
                return false;
            }
            addFromStart(SEMICOLON, 0);
            tokens.tellLast(PUT_IN, 1);
            return true;
        }

        private void put(int kind) {
            addFromStart(kind, text.at - startPlace);
        }

        private void addFromStart(int kind, int length) {
            tokens.add(kind);
            tokens.tellLast(PLACE, startPlace);
            tokens.tellLast(LINE, startLine);
            tokens.tellLast(COLUMN, startColumn);
            tokens.tellLast(LENGTH, length);
            tokens.tellLast(FIRST_BYTE, startByte);
            tokens.tellLast(BYTE_COUNT, tokens.bytes.used - startByte);
            wantsSemicolon = mayEndLine(kind);
        }

        private static boolean mayEndLine(int kind) {
            switch (kind) {
                case NAME:
                case INT:
                case FLOAT:
                case RUNE:
                case STRING:
                case BREAK:
                case CONTINUE:
                case FALLTHROUGH:
                case RETURN:
                case PLUS_PLUS:
                case MINUS_MINUS:
                case ROUND_CLOSE:
                case SQUARE_CLOSE:
                case CURLY_CLOSE:
                    return true;
                default:
                    return false;
            }
        }

        /** The kind of the word that the bytes since the start are, NONE when they are none. */
        private int wordKind() {
            int length = tokens.bytes.used - startByte;
            for (int word = 0; word + 1 < WORD_AT.length; word++) {
                if (WORD_AT[word + 1] - WORD_AT[word] == length && isWordAt(WORD_AT[word], length)) {
                    return FIRST_WORD + word;
                }
            }
            return NONE;
        }

        private boolean isWordAt(int from, int length) {
            for (int i = 0; i < length && from + i < WORDS.length(); i++) {
                if (WORDS.charAt(from + i) != tokens.bytes.byteAt(startByte + i)) {
                    return false;
                }
            }
            return true;
        }
    }

    /** The kinds of the signs, which are asked for by their bytes, the first the highest. */
    private static final class Signs {
        static int kindOfOne(int sign) {
            switch (sign) {
                case '+': return 40;
                case '-': return 41;
                case '*': return 42;
                case '/': return 43;
                case '%': return 44;
                case '&': return 45;
                case '|': return 46;
                case '^': return 47;
                case '<': return 68;
                case '>': return 69;
                case '=': return 70;
                case '!': return 71;
                case '~': return 72;
                case '(': return 78;
                case ')': return ROUND_CLOSE;
                case '[': return 80;
                case ']': return SQUARE_CLOSE;
                case '{': return 82;
                case '}': return CURLY_CLOSE;
                case ',': return 84;
                case ';': return SEMICOLON;
                case '.': return 86;
                case ':': return 87;
                default: return NONE;
            }
        }

        static int kindOfTwo(int sign) {
            switch (sign) {
                case '<' << 8 | '<': return 48;
                case '>' << 8 | '>': return 49;
                case '&' << 8 | '^': return 50;
                case '+' << 8 | '=': return 51;
                case '-' << 8 | '=': return 52;
                case '*' << 8 | '=': return 53;
                case '/' << 8 | '=': return 54;
                case '%' << 8 | '=': return 55;
                case '&' << 8 | '=': return 56;
                case '|' << 8 | '=': return 57;
                case '^' << 8 | '=': return 58;
                case '&' << 8 | '&': return 62;
                case '|' << 8 | '|': return 63;
                case '<' << 8 | '-': return 64;
                case '+' << 8 | '+': return PLUS_PLUS;
                case '-' << 8 | '-': return MINUS_MINUS;
                case '=' << 8 | '=': return 67;
                case '!' << 8 | '=': return 73;
                case '<' << 8 | '=': return 74;
                case '>' << 8 | '=': return 75;
                case ':' << 8 | '=': return 76;
                default: return NONE;
            }
        }

        static int kindOfThree(int sign) {
            switch (sign) {
                case '<' << 16 | '<' << 8 | '=': return 59;
                case '>' << 16 | '>' << 8 | '=': return 60;
                case '&' << 16 | '^' << 8 | '=': return 61;
                case '.' << 16 | '.' << 8 | '.': return 77;
                default: return NONE;
            }
        }
    }

    /** Reads an INT or a FLOAT, and keeps its bytes without the _ in it. */
    private static final class NumberReader {
        static final int NO_BASE = 0;

        final Text text;
        final ByteRow bytes;

        NumberReader(Text text, ByteRow bytes) {
            this.text = text;
            this.bytes = bytes;
        }

        /** The base of the INT, NO_BASE for a FLOAT, NONE when there is an error. */
        int readNumber() {
            int base = text.here() == '0' ? baseOfLetter(text.next()) : NONE;
            int answer = base == NONE ? readDecimal() : readWithLetter(base);
            return answer != NONE && isNamePart(text.here()) ? text.refuse() : answer;
        }

        private static int baseOfLetter(int c) {
            switch (c) {
                case 'b':
                case 'B':
                    return 2;
                case 'o':
                case 'O':
                    return 8;
                case 'x':
                case 'X':
                    return 16;
                default:
                    return NONE;
            }
        }

        private int readWithLetter(int base) {
            keepByte();
            keepByte();
            if (text.here() == '_') {
                text.step();
            }
            return readDigits(base) ? base : NONE;
        }

        private int readDecimal() {
            int start = bytes.used;
            if (text.here() != '.' && !readDigits(10)) {
                return NONE;
            }
            int digits = bytes.used - start;
            if (text.here() == '.') {
                keepByte();
                if (isDigit(text.here()) && !readDigits(10)) {
                    return NONE;
                }
            }
            if (text.here() == 'e' || text.here() == 'E') {
                keepByte();
                if (text.here() == '+' || text.here() == '-') {
                    keepByte();
                }
                if (!readDigits(10)) {
                    return NONE;
                }
            }
            return bytes.used - start > digits ? NO_BASE : baseOfDigits(start, digits);
        }

        /** An 8 or 9 behind a first 0 was fine as long as a FLOAT could come of it. */
        private int baseOfDigits(int start, int digits) {
            if (digits == 1 || bytes.byteAt(start) != '0') {
                return 10;
            }
            for (int i = 1; i < digits; i++) {
                if (bytes.byteAt(start + i) > '7') {
                    return text.refuse();
                }
            }
            return 8;
        }

        /** One digit at least, with one _ between two or none. */
        private boolean readDigits(int base) {
            for (int n = 0; n < MAX_TEXT; n++) {
                if (digitOf(text.here(), base) == NONE) {
                    text.refuse();
                    return false;
                }
                keepByte();
                if (text.here() == '_') {
                    text.step();
                } else if (digitOf(text.here(), base) == NONE) {
                    return true;
                }
            }
            return false;
        }

        private void keepByte() {
            bytes.append(text.here());
            text.step();
        }
    }

    /** Reads a RUNE or a STRING, and keeps the bytes of a STRING's value. */
    private static final class QuoteReader {
        final Text text;
        final ByteRow bytes;
        boolean isByte = false;

        QuoteReader(Text text, ByteRow bytes) {
            this.text = text;
            this.bytes = bytes;
        }

        /** The RUNE's value, NONE when there is an error. */
        int readRune() {
            text.step();
            int value = readCharacter('\'');
            if (value == NONE) {
                return NONE;
            }
            if (text.here() != '\'') {
                return text.refuse();
            }
            text.step();
            return value;
        }

        boolean readString() {
            text.step();
            for (int n = 0; n < MAX_TEXT && text.here() != '"'; n++) {
                int value = readCharacter('"');
                if (value == NONE) {
                    return false;
                }
                if (isByte) {
                    bytes.append(value);
                } else {
                    bytes.appendCode(value);
                }
            }
            text.step();
            return true;
        }

        boolean readRaw() {
            text.step();
            for (int n = 0; n < MAX_TEXT && text.here() != '`'; n++) {
                int code = text.character();
                if (code == NONE) {
                    return false;
                }
                if (code != '\r') {
                    bytes.appendCode(code);
                }
            }
            text.step();
            return true;
        }

        /** The code of a character, or its byte where isByte says so; NONE when there is an error. */
        private int readCharacter(int quote) {
            isByte = false;
            int c = text.here();
            if (c == '\\') {
                text.step();
                return readEscaped(quote);
            }
            return c == quote || c == '\n' ? text.refuse() : text.character();
        }

        private int readEscaped(int quote) {
            int c = text.here();
            int plain = c == quote ? quote : plainEscape(c);
            if (plain != NONE) {
                text.step();
                return plain;
            }
            // With a higher first digit no byte could come of the three.
            if (c >= '0' && c <= '3') {
                return readByte(8, 3);
            }
            if (c != 'x' && c != 'u' && c != 'U') {
                return text.refuse();
            }
            text.step();
            return c == 'x' ? readByte(16, 2) : readCode(c == 'u' ? 4 : 8);
        }

        private static int plainEscape(int c) {
            switch (c) {
                case 'a': return 7;
                case 'b': return 8;
                case 'f': return 12;
                case 'n': return 10;
                case 'r': return 13;
                case 't': return 9;
                case 'v': return 11;
                case '\\': return '\\';
                default: return NONE;
            }
        }

        private int readByte(int base, int digits) {
            isByte = true;
            int value = 0;
            for (int n = 0; n < digits; n++) {
                int digit = digitOf(text.here(), base);
                if (digit == NONE) {
                    return text.refuse();
                }
                value = value * base + digit;
                text.step();
            }
            return value;
        }

        /** Refuses the first digit with which no code could come of all of them. */
        private int readCode(int digits) {
            long value = 0;
            for (int left = digits - 1; left >= 0; left--) {
                int digit = digitOf(text.here(), 16);
                value = value * 16 + digit;
                long low = value << 4 * left;
                long high = low + (1L << 4 * left) - 1;
                if (digit == NONE || !holdsCode(low, high)) {
                    return text.refuse();
                }
                text.step();
            }
            return (int) value;
        }
    }

    /** What the digits of an INT are worth. */
    private static final class IntValue {
        static final int BITS_OF_A_LIMB = 32;
        static final long LIMB_MASK = 0xFFFFFFFFL;

        final Tokens tokens;
        // The number, lowest limb first; of more than MAX_BITS nothing needs to be known.
        final long[] limbs = new long[MAX_BITS / BITS_OF_A_LIMB];
        int used = 0;

        IntValue(Tokens tokens) {
            this.tokens = tokens;
        }

        long lowBits(int k) {
            int base = tokens.fact(k, BASE);
            int count = tokens.fact(k, BYTE_COUNT);
            long value = 0;
            for (int i = firstDigit(k); i < count; i++) {
                value = value * base + digitOf(tokens.byteOfToken(k, i), base);
            }
            return value;
        }

        boolean isBelowPowerOfTwo(int k, int bits) {
            int base = tokens.fact(k, BASE);
            int count = tokens.fact(k, BYTE_COUNT);
            used = 0;
            for (int i = firstDigit(k); i < count; i++) {
                if (!appendDigit(base, digitOf(tokens.byteOfToken(k, i), base))) {
                    return false;
                }
            }
            return hasNoBitFrom(bits);
        }

        /** The letter of the base, if there is one, is the second byte. */
        private int firstDigit(int k) {
            return tokens.byteOfToken(k, 1) > '9' ? 2 : 0;
        }

        /** False when the number becomes too large for the limbs, as it then stays. */
        private boolean appendDigit(int base, int digit) {
            long carry = digit;
            for (int i = 0; i < used && i < limbs.length; i++) {
                carry += limbs[i] * base;
                limbs[i] = carry & LIMB_MASK;
                carry >>>= BITS_OF_A_LIMB;
            }
            if (carry == 0) {
                return true;
            }
            if (used >= limbs.length) {
                return false;
            }
            limbs[used] = carry;
            used++;
            return true;
        }

        private boolean hasNoBitFrom(int bits) {
            int first = bits / BITS_OF_A_LIMB;
            for (int i = first; i < used && i < limbs.length; i++) {
                int below = i == first ? bits % BITS_OF_A_LIMB : 0;
                if (i >= 0 && limbs[i] >>> below != 0) {
                    return false;
                }
            }
            return true;
        }
    }
}
