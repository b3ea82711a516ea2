import java.util.zip.CRC32;

/** The boundary cases of promise 14 and of the sums, each with a test of its own. */
public final class SumBoundsTest {
    private static final Due due = new Due();

    public static void main(String[] args) {
        sumsOfNothing();
        sumsOfOneByte();
        sumFourHasNoSign();
        sumEightIsALong();
        sumsOfAFullRow();
        sumsOfWhatIsLeft();
        sumsOfPlainAlone();
        sumChangesNothing();
        due.end();
    }

    /** "At first all 1 ... in the end all bits are turned": without a byte that is 0. */
    private static void sumsOfNothing() {
        IntervalPacker x = new IntervalPacker();
        due.is("SUM4 of nothing", x.sum(false), 0);
        due.is("SUM8 of nothing", x.sum(true), 0);
    }

    private static long sumFour(String hex) {
        CRC32 crc = new CRC32();
        for (int i = 0; i < hex.length(); i += 2) {
            crc.update(Integer.parseInt(hex.substring(i, i + 2), 16));
        }
        return crc.getValue();
    }

    private static void sums(IntervalPacker x, String plain) {
        due.is("SUM4 of " + plain, x.sum(false), sumFour(plain));
        due.is("SUM8 of " + plain, x.sum(true), Maker.sumEightOf(plain));
    }

    /** "It is xored to the lowest eight bits": each byte, 0 and 255 too. */
    private static void sumsOfOneByte() {
        for (int b = 0; b <= 255; b++) {
            IntervalPacker x = new IntervalPacker();
            x.feed(b, 1, false);
            sums(x, String.format("%02x", b));
        }
        IntervalPacker x = new IntervalPacker();
        x.feed(0, 1, false);
        due.is("SUM4 of 0", x.sum(false), 0xD202EF8DL);
        due.is("SUM8 of 0", x.sum(true), 0x1FADA17364673F59L);
        x.feed(0, 1, false);
        due.is("SUM4 of two 0", x.sum(false), 0x41D912FFL);
    }

    /** "As a number without a sign": the first above 31 bits is not below 0, the greatest is 0xFFFFFFFF. */
    private static void sumFourHasNoSign() {
        IntervalPacker x = new IntervalPacker();
        x.feed(0x61, 1, false);
        due.is("SUM4 with the highest bit", x.sum(false), 0xE8B7BE43L);
        Due.fill(x, "ffffffff", false);
        due.is("SUM4 with all bits", x.sum(false), 0xFFFFFFFFL);
        Due.fill(x, "00000000ffffffff", false);
        due.is("SUM4 of both", x.sum(false), sumFour("00000000ffffffff"));
        Due.fill(x, "9d0ad96d", false);
        due.is("SUM4 of four bytes that make it 0", x.sum(false), 0);
    }

    /** "Or (long8) SUM8 (as a long)": with the highest bit it is below 0. */
    private static void sumEightIsALong() {
        IntervalPacker x = new IntervalPacker();
        Due.fillText(x, "123456789");
        due.is("SUM8 below 0", x.sum(true), 0x995DC9BBDF1939FAL);
        due.is("that it is", x.sum(true) < 0, true);
        Due.fill(x, "ffffffffffffffff", false);
        due.is("SUM8 with all bits", x.sum(true), -1L);
    }

    /** "Of PLAIN's bytes": of each number of them up to 400. */
    private static void sumsOfAFullRow() {
        IntervalPacker x = new IntervalPacker();
        StringBuilder hex = new StringBuilder();
        for (int i = 0; i < 400; i++) {
            int b = (i * 89 + i / 3) & 255;
            x.feed(b, 1, false);
            sums(x, hex.append(String.format("%02x", b)).toString());
        }
        due.is("a byte more", x.feed(1, 1, false), IntervalPacker.NONE);
        sums(x, hex.toString());
    }

    /** "Of PLAIN's bytes": not of those that went. */
    private static void sumsOfWhatIsLeft() {
        IntervalPacker x = new IntervalPacker();
        Due.fillText(x, "1234567890");
        x.cut(9, false);
        due.is("SUM4", x.sum(false), 0xCBF43926L);
        x.cut(0, false);
        due.is("SUM4 of nothing", x.sum(false), 0);
        due.is("SUM8 of nothing", x.sum(true), 0);
    }

    private static void sumsOfPlainAlone() {
        IntervalPacker x = new IntervalPacker();
        Due.fillText(x, "123456789");
        Due.fill(x, "0102030405", true);
        sums(x, Due.hexOf("123456789"));
        x.cut(0, false);
        sums(x, "");
    }

    private static void sumChangesNothing() {
        IntervalPacker x = new IntervalPacker();
        Due.fillText(x, "123456789");
        Due.fill(x, "fd377a585a00", true);
        x.unpack();
        due.refusesCall("sum(false)", x, () -> x.sum(false), 0xCBF43926L);
        due.refusesCall("sum(true)", x, () -> x.sum(true), 0x995DC9BBDF1939FAL);
    }
}
