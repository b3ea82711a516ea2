import java.util.zip.CRC32;

/** Promise 14: sum. */
public final class SumTest {
    private static final Due due = new Due();

    public static void main(String[] args) {
        IntervalPacker x = new IntervalPacker();
        due.is("SUM4 of nothing", x.sum(false), 0);
        due.is("SUM8 of nothing", x.sum(true), 0);
        Due.fillText(x, "123456789");
        due.is("SUM4", x.sum(false), 0xCBF43926L);
        due.is("SUM8", x.sum(true), 0x995DC9BBDF1939FAL);
        x.feed(0x55, 1, true);
        due.is("SUM4 leaves PACKED out", x.sum(false), 0xCBF43926L);
        asTheLibrarySays(x);
        due.end();
    }

    private static void asTheLibrarySays(IntervalPacker x) {
        x.cut(0, false);
        CRC32 crc = new CRC32();
        for (int i = 0; i < 400; i++) {
            int b = (i * 151 + i / 7) & 255;
            x.feed(b, 1, false);
            crc.update(b);
            due.is("SUM4 of " + (i + 1), x.sum(false), crc.getValue());
        }
    }
}
