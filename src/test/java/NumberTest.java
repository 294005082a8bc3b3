import java.math.BigInteger;
import java.util.Random;

/** Promises 9 and 10: number and fits. */
public final class NumberTest {
    public static void main(String[] args) {
        numbersOfInts();
        numbersOfRunes();
        othersAreNone();
        edgesOfFits();
        wrongBits();
        manyInts();
        Kit.finish();
    }

    private static void number(String text, long want) {
        Kit.due("number of " + Kit.shown(text), Kit.scanned("+" + text).number(1), want);
    }

    private static void numbersOfInts() {
        number("0", 0);
        number("7", 7);
        number("1_000", 1000);
        number("010", 8);
        number("0_17", 15);
        number("00", 0);
        number("0b1_01", 5);
        number("0B_11", 3);
        number("0o17", 15);
        number("0O_17", 15);
        number("0xfF", 255);
        number("0X_1_0", 16);
        number("0xb", 11);
        number("0x0b1", 177);
        number("9223372036854775807", Long.MAX_VALUE);
        number("9223372036854775808", Long.MIN_VALUE);
        number("18446744073709551615", -1);
        number("18446744073709551616", 0);
        number("18446744073709551619", 3);
        number("0x1_0000_0000_0000_0001", 1);
        number("0xFFFFFFFFFFFFFFFF", -1);
        number("01777777777777777777777", -1);
    }

    private static void numbersOfRunes() {
        number("'a'", 97);
        number("'\\n'", 10);
        number("'\\a'", 7);
        number("'\\b'", 8);
        number("'\\f'", 12);
        number("'\\r'", 13);
        number("'\\t'", 9);
        number("'\\v'", 11);
        number("'\\\\'", 92);
        number("'\\''", 39);
        number("'\"'", 34);
        number("'\\000'", 0);
        number("'\\377'", 255);
        number("'\\x80'", 128);
        number("'\\u20aC'", 0x20AC);
        number("'\\uffff'", 0xFFFF);
        number("'\\U0010FFFF'", 0x10FFFF);
        number(Kit.utf8("'\u00e9'"), 0xE9);
        number(Kit.utf8("'\u20ac'"), 0x20AC);
        number(Kit.utf8("'\ud83d\ude00'"), 0x1F600);
        number(Kit.utf8("'\udbff\udfff'"), 0x10FFFF);
    }

    private static void othersAreNone() {
        SourceTokens x = Kit.scanned("a 1.5 \"1\" `1` + if 1 'a'");
        for (int k : new int[] {-1, 0, 1, 2, 3, 4, 5, 8, 9, Integer.MIN_VALUE, Integer.MAX_VALUE}) {
            Kit.dueThrow("number(" + k + ")", () -> x.number(k));
            Kit.dueThrow("fits(" + k + ", 8)", () -> x.fits(k, 8) ? 1 : 0);
        }
        Kit.due("number(6)", x.number(6), 1);
        Kit.due("number(7)", x.number(7), 97);
        Kit.dueThrow("fits(7, 8) of a RUNE", () -> x.fits(7, 8) ? 1 : 0);
    }

    private static void edgesOfFits() {
        fits(BigInteger.ZERO);
        for (int bits = 0; bits <= 520; bits++) {
            BigInteger power = BigInteger.ONE.shiftLeft(bits);
            fits(power);
            fits(power.subtract(BigInteger.ONE));
        }
        fits(BigInteger.TEN.pow(1000));
    }

    private static void fits(BigInteger value) {
        String[] texts = {value.toString(), "0" + value.toString(8), "0o" + value.toString(8), "0x" + value.toString(16),
            "0b" + value.toString(2), "0x000000_0000000" + value.toString(16)};
        int bits = value.bitLength();
        for (String text : texts) {
            SourceTokens x = Kit.scanned(text);
            for (int asked : new int[] {0, 1, 31, 32, 33, 63, 64, 65, 511, 512, bits - 1, bits, bits + 1}) {
                if (asked >= 0 && asked <= 512) {
                    Kit.due("fits(0, " + asked + ") of " + Kit.shown(text), x.fits(0, asked), bits <= asked);
                }
            }
        }
    }

    private static void wrongBits() {
        SourceTokens x = Kit.scanned("0");
        for (int bits : new int[] {-1, 513, Integer.MIN_VALUE, Integer.MAX_VALUE}) {
            Kit.dueThrow("fits(0, " + bits + ")", () -> x.fits(0, bits) ? 1 : 0);
        }
        Kit.due("fits(0, 0) of 0", x.fits(0, 0), true);
        Kit.due("fits(0, 512) of 0", x.fits(0, 512), true);
        Kit.due("fits(0, 0) of 1", Kit.scanned("1").fits(0, 0), false);
        Kit.due("fits(0, 1) of 1", Kit.scanned("1").fits(0, 1), true);
        Kit.due("fits(0, 512) of 65000 noughts and 1", Kit.scanned("0x" + "0".repeat(65000) + "1").fits(0, 1), true);
        Kit.due("fits(0, 512) of 65000 nines", Kit.scanned("9".repeat(65000)).fits(0, 512), false);
    }

    private static void manyInts() {
        Random random = new Random(5);
        for (int n = 0; n < 500; n++) {
            BigInteger value = new BigInteger(random.nextInt(530), random);
            fits(value);
            number(value.toString(), value.longValue());
            number("0x" + value.toString(16), value.longValue());
            number("0" + value.toString(8), value.longValue());
            number("0B" + value.toString(2), value.longValue());
        }
    }
}
