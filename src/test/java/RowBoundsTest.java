/**
 * The boundary cases of promises 1 to 6 and of the two rows, each sentence with a test of its own: the last
 * value that is taken, the first one that is not, and that a refused call changes nothing.
 */
public final class RowBoundsTest {
    private static final int NONE = IntervalPacker.NONE;
    private static final int LEAST = Integer.MIN_VALUE;
    private static final int GREATEST = Integer.MAX_VALUE;
    private static final Due due = new Due();

    public static void main(String[] args) {
        newObjectHasEmptyRows();
        newObjectHasUnpackedNothing();
        newObjectWatchesNoBit();
        feedTakesOneToEight();
        feedTakesTheLowestBytes();
        feedFillsPlainTo400();
        feedFillsPackedTo640();
        rowsHaveRoomOfTheirOwn();
        copyTakesOneTo300();
        copyTakesDistancesUpToTheNumber();
        copyOfAnEmptyRow();
        copyFillsPlainTo400();
        copyOfWhatItAppended();
        cutTakesZeroToTheNumber();
        cutOfEmptyRows();
        cutOfFullRows();
        cutBytesAreGone();
        changeTakesPlacesThatThereAre();
        changeTakesBytes();
        changeOfEmptyAndFullRows();
        atAnswersPlacesThatThereAre();
        atOfEmptyAndFullRows();
        the512thCall();
        due.end();
    }

    /** An object with bytes in both rows, of which a bit was watched in the latest unpack(), without a fault. */
    private static IntervalPacker used() {
        IntervalPacker x = new IntervalPacker();
        Steps s = new Steps(93);
        s.literals("61620063").copy(3, 5);
        Due.fill(x, Maker.ofChunks(Maker.head(), s.chunk(224), 9), true);
        x.watch(12);
        due.is("unpack()", x.unpack(), 9);
        due.is("range()", x.range(), s.bit(12)[0]);
        return x;
    }

    /** An object whose latest unpack() met a fault. */
    private static IntervalPacker faulty() {
        IntervalPacker x = used();
        x.change(7, 9);
        due.is("unpack()", x.unpack(), IntervalPacker.FORM);
        due.is("where()", x.where(), 6);
        return x;
    }

    /** PLAIN gets so many bytes, none like the one before it. */
    private static IntervalPacker ofPlain(int n) {
        IntervalPacker x = new IntervalPacker();
        for (int i = 0; i < n; i++) {
            x.feed(i * 7 + 3, 1, false);
        }
        return x;
    }

    private static IntervalPacker ofPacked(int n) {
        IntervalPacker x = new IntervalPacker();
        for (int i = 0; i < n; i++) {
            x.feed(i * 5 + 1, 1, true);
        }
        return x;
    }

    /** "PLAIN and PACKED are empty." */
    private static void newObjectHasEmptyRows() {
        IntervalPacker x = new IntervalPacker();
        for (boolean packed : new boolean[] {false, true}) {
            due.is("at(0)", x.at(0, packed), NONE);
            due.is("cut(0)", x.cut(0, packed), 0);
            due.is("cut(1)", x.cut(1, packed), NONE);
            due.is("feed", x.feed(1, 1, packed), 1);
        }
        due.is("pack() of nothing", new IntervalPacker().pack(0, 0, 1), 32);
        due.is("unpack() of nothing", new IntervalPacker().unpack(), IntervalPacker.CUT);
    }

    /** "Nothing was unpacked." */
    private static void newObjectHasUnpackedNothing() {
        IntervalPacker x = new IntervalPacker();
        due.is("where()", x.where(), NONE);
        due.is("range()", x.range(), NONE);
        due.is("code()", x.code(), NONE);
        due.is("counts", Due.countsOf(x), "0 0 0 0 0 0 0 0 0 0 0");
    }

    /** "No bit is watched." */
    private static void newObjectWatchesNoBit() {
        IntervalPacker x = new IntervalPacker();
        Due.fill(x, Maker.ofChunks(Maker.head(), new Steps(0).literal(7).chunk(224), 1), true);
        due.is("unpack()", x.unpack(), 1);
        due.is("bits", x.count(0), 9);
        due.is("range()", x.range(), NONE);
        due.is("code()", x.code(), NONE);
    }

    /** "NONE, changing nothing, when n is not 1 .. 8." */
    private static void feedTakesOneToEight() {
        for (boolean packed : new boolean[] {false, true}) {
            for (int n = 1; n <= 8; n++) {
                due.is("feed by " + n, new IntervalPacker().feed(0x1122334455667788L, n, packed), n);
            }
            for (int n : new int[] {0, -1, 9, 10, 16, 257, LEAST, GREATEST}) {
                for (IntervalPacker x : new IntervalPacker[] {new IntervalPacker(), used(), faulty()}) {
                    due.refusesCall("feed by " + n, x, () -> x.feed(5, n, packed), NONE);
                }
            }
        }
    }

    /** "Appends the n lowest bytes of a long, the highest first." */
    private static void feedTakesTheLowestBytes() {
        String digits = "8122c344f5667708";
        for (boolean packed : new boolean[] {false, true}) {
            for (int n = 1; n <= 8; n++) {
                IntervalPacker x = new IntervalPacker();
                x.feed(0x8122C344F5667708L, n, packed);
                due.is("fed by " + n, Due.hexOf(x, packed), digits.substring(16 - 2 * n));
                due.is("the other row", Due.hexOf(x, !packed), "");
            }
            IntervalPacker x = new IntervalPacker();
            x.feed(-1L, 8, packed);
            x.feed(0L, 8, packed);
            x.feed(256L, 1, packed);
            x.feed(255L, 2, packed);
            due.is("fed", Due.hexOf(x, packed), "ffffffffffffffff00000000000000000000ff");
        }
    }

    /** "PLAIN, at most 400 bytes" ... "or there would be too many." */
    private static void feedFillsPlainTo400() {
        for (int n = 1; n <= 8; n++) {
            int more = n;
            due.is("feed by " + n + " up to 400", ofPlain(400 - n).feed(-1, n, false), 400);
            IntervalPacker x = ofPlain(401 - n);
            due.refusesCall("feed by " + n + " up to 401", x, () -> x.feed(-1, more, false), NONE);
            IntervalPacker full = ofPlain(400);
            due.refusesCall("feed by " + n + " of a full row", full, () -> full.feed(-1, more, false), NONE);
        }
        IntervalPacker x = ofPlain(399);
        due.is("the last byte", x.feed(0x77, 1, false), 400);
        due.is("at(399)", x.at(399, false), 0x77);
    }

    /** "And PACKED, at most 640" ... "or there would be too many." */
    private static void feedFillsPackedTo640() {
        for (int n = 1; n <= 8; n++) {
            int more = n;
            due.is("feed by " + n + " up to 640", ofPacked(640 - n).feed(-1, n, true), 640);
            IntervalPacker x = ofPacked(641 - n);
            due.refusesCall("feed by " + n + " up to 641", x, () -> x.feed(-1, more, true), NONE);
            IntervalPacker full = ofPacked(640);
            due.refusesCall("feed by " + n + " of a full row", full, () -> full.feed(-1, more, true), NONE);
        }
        IntervalPacker x = ofPacked(639);
        due.is("the last byte", x.feed(0x77, 1, true), 640);
        due.is("at(639)", x.at(639, true), 0x77);
    }

    /** "Stand in two rows": a full one leaves the other its room. */
    private static void rowsHaveRoomOfTheirOwn() {
        IntervalPacker x = ofPlain(400);
        due.is("feed to PACKED", x.feed(9, 1, true), 1);
        IntervalPacker y = ofPacked(640);
        due.is("feed to PLAIN", y.feed(9, 1, false), 1);
        due.is("copy", y.copy(1, 300), 301);
        IntervalPacker z = ofPacked(401);
        due.is("PACKED beyond 400", z.feed(9, 8, true), 409);
    }

    /** "NONE, changing nothing, when n is not 1 .. 300." */
    private static void copyTakesOneTo300() {
        due.is("copy(1, 1)", ofPlain(5).copy(1, 1), 6);
        due.is("copy(5, 299)", ofPlain(5).copy(5, 299), 304);
        due.is("copy(5, 300)", ofPlain(5).copy(5, 300), 305);
        for (int n : new int[] {0, -1, -300, 301, 302, LEAST, GREATEST}) {
            for (IntervalPacker x : new IntervalPacker[] {ofPlain(5), used(), faulty()}) {
                due.refusesCall("copy(1, " + n + ")", x, () -> x.copy(1, n), NONE);
            }
        }
    }

    /** "Distance not 1 .. the number of bytes." */
    private static void copyTakesDistancesUpToTheNumber() {
        for (int size : new int[] {1, 2, 5, 200, 399}) {
            IntervalPacker near = ofPlain(size);
            due.is("copy(1, 1) of " + size, near.copy(1, 1), size + 1);
            due.is("the last byte again", near.at(size, false), near.at(size - 1, false));
            IntervalPacker far = ofPlain(size);
            due.is("copy(" + size + ", 1)", far.copy(size, 1), size + 1);
            due.is("the first byte again", far.at(size, false), 3);
            for (int distance : new int[] {0, -1, -size, size + 1, size + 2, LEAST, GREATEST}) {
                IntervalPacker x = ofPlain(size);
                due.refusesCall("copy(" + distance + ", 1) of " + size, x, () -> x.copy(distance, 1), NONE);
            }
        }
    }

    /** "Distance not 1 .. the number of bytes": there is none when there are no bytes. */
    private static void copyOfAnEmptyRow() {
        for (int distance : new int[] {-1, 0, 1, 2, 400, LEAST, GREATEST}) {
            IntervalPacker x = new IntervalPacker();
            x.feed(0x55, 1, true);
            due.refusesCall("copy(" + distance + ", 1) of nothing", x, () -> x.copy(distance, 1), NONE);
        }
        IntervalPacker x = ofPlain(3);
        x.cut(0, false);
        due.refusesCall("copy(1, 1) of what was cut", x, () -> x.copy(1, 1), NONE);
    }

    /** "Or there would be too many." */
    private static void copyFillsPlainTo400() {
        for (int n : new int[] {1, 2, 100, 299, 300}) {
            IntervalPacker fits = ofPlain(400 - n);
            due.is("copy by " + n + " up to 400", fits.copy(1, n), 400);
            due.is("at(399)", fits.at(399, false), ofPlain(400 - n).at(399 - n, false));
            IntervalPacker x = ofPlain(401 - n);
            due.refusesCall("copy by " + n + " up to 401", x, () -> x.copy(1, n), NONE);
            IntervalPacker full = ofPlain(400);
            due.refusesCall("copy by " + n + " of a full row", full, () -> full.copy(1, n), NONE);
            due.refusesCall("the same from the front", full, () -> full.copy(400, n), NONE);
        }
    }

    /** "Each the one that is so far back (also one that it has just appended)." */
    private static void copyOfWhatItAppended() {
        IntervalPacker x = new IntervalPacker();
        x.feed(0x010203, 3, false);
        due.is("as far as it goes", x.copy(3, 3), 6);
        due.is("PLAIN", Due.hexOf(x, false), "010203010203");
        due.is("one more than that", x.copy(2, 3), 9);
        due.is("PLAIN", Due.hexOf(x, false), "010203010203020302");
        due.is("over and over", x.copy(9, 300), 309);
        StringBuilder want = new StringBuilder("010203010203020302".repeat(34)).append("010203");
        due.is("PLAIN", Due.hexOf(x, false), want.toString());
        IntervalPacker y = new IntervalPacker();
        y.feed(0x81, 1, false);
        y.copy(1, 300);
        due.is("one byte over and over", Due.hexOf(y, false), "81".repeat(301));
    }

    /** "NONE, changing nothing, when n is not 0 .. their number." */
    private static void cutTakesZeroToTheNumber() {
        for (boolean packed : new boolean[] {false, true}) {
            for (int n = 0; n <= 5; n++) {
                IntervalPacker x = new IntervalPacker();
                x.feed(0x0102030405L, 5, packed);
                x.feed(0x0607, 2, !packed);
                due.is("cut(" + n + ")", x.cut(n, packed), 5 - n);
                due.is("what is left", Due.hexOf(x, packed), "0102030405".substring(0, 2 * n));
                due.is("the other row", Due.hexOf(x, !packed), "0607");
            }
            for (int n : new int[] {-1, -2, 6, 7, 400, 640, LEAST, GREATEST}) {
                IntervalPacker x = new IntervalPacker();
                x.feed(0x0102030405L, 5, packed);
                x.feed(0x060708090A0B0CL, 7, !packed);
                due.refusesCall("cut(" + n + ")", x, () -> x.cut(n, packed), NONE);
            }
            for (IntervalPacker x : new IntervalPacker[] {used(), faulty()}) {
                due.refusesCall("cut(-1)", x, () -> x.cut(-1, packed), NONE);
                due.refusesCall("cut(641)", x, () -> x.cut(641, packed), NONE);
            }
        }
    }

    /** "0 .. their number": of an empty row 0 alone. */
    private static void cutOfEmptyRows() {
        for (boolean packed : new boolean[] {false, true}) {
            IntervalPacker x = new IntervalPacker();
            x.feed(0x0102, 2, !packed);
            due.is("cut(0) of nothing", x.cut(0, packed), 0);
            due.refusesCall("cut(1) of nothing", x, () -> x.cut(1, packed), NONE);
            due.refusesCall("cut(-1) of nothing", x, () -> x.cut(-1, packed), NONE);
        }
    }

    /** "0 .. their number": of a full row. */
    private static void cutOfFullRows() {
        IntervalPacker x = ofPlain(400);
        due.is("cut(400, false)", x.cut(400, false), 0);
        due.refusesCall("cut(401, false)", x, () -> x.cut(401, false), NONE);
        due.is("cut(399, false)", x.cut(399, false), 1);
        due.refusesCall("cut(400, false)", x, () -> x.cut(400, false), NONE);
        due.is("cut(0, false)", x.cut(0, false), 399);
        IntervalPacker y = ofPacked(640);
        due.is("cut(640, true)", y.cut(640, true), 0);
        due.refusesCall("cut(641, true)", y, () -> y.cut(641, true), NONE);
        due.is("cut(639, true)", y.cut(639, true), 1);
        due.refusesCall("cut(640, true)", y, () -> y.cut(640, true), NONE);
        due.is("cut(0, true)", y.cut(0, true), 639);
    }

    /** "Has its first n bytes left." */
    private static void cutBytesAreGone() {
        IntervalPacker x = ofPlain(10);
        x.cut(4, false);
        due.is("at(3)", x.at(3, false), 24);
        due.is("at(4)", x.at(4, false), NONE);
        due.is("copy(5, 1)", x.copy(5, 1), NONE);
        due.is("feed", x.feed(0xEE, 1, false), 5);
        due.is("PLAIN", Due.hexOf(x, false), "030a1118ee");
        due.is("at(5)", x.at(5, false), NONE);
        IntervalPacker y = ofPacked(10);
        y.cut(4, true);
        due.is("at(3)", y.at(3, true), 16);
        due.is("at(4)", y.at(4, true), NONE);
        due.is("change(4, 1)", y.change(4, 1), NONE);
        due.is("feed", y.feed(0xEE, 1, true), 5);
        due.is("PACKED", Due.hexOf(y, true), "01060b10ee");
    }

    /** "NONE, changing nothing, when there is none." */
    private static void changeTakesPlacesThatThereAre() {
        for (int i = 0; i < 5; i++) {
            IntervalPacker x = ofPacked(5);
            due.is("change(" + i + ", 200)", x.change(i, 200), 5 * i + 1);
            due.is("at(" + i + ")", x.at(i, true), 200);
            due.is("change(" + i + ", 0)", x.change(i, 0), 200);
        }
        for (int i : new int[] {-1, -5, 5, 6, 639, 640, LEAST, GREATEST}) {
            IntervalPacker x = ofPacked(5);
            Due.fill(x, "0102030405060708", false);
            due.refusesCall("change(" + i + ", 9)", x, () -> x.change(i, 9), NONE);
        }
        for (IntervalPacker x : new IntervalPacker[] {used(), faulty()}) {
            due.refusesCall("change(-1, 9)", x, () -> x.change(-1, 9), NONE);
            due.refusesCall("change(640, 9)", x, () -> x.change(640, 9), NONE);
        }
    }

    /** "Or b is no byte": bytes are 0 .. 255. */
    private static void changeTakesBytes() {
        IntervalPacker x = ofPacked(3);
        int before = 6;
        for (int b = 0; b <= 255; b++) {
            due.is("change(1, " + b + ")", x.change(1, b), before);
            due.is("at(1)", x.at(1, true), b);
            before = b;
        }
        due.is("PACKED", Due.hexOf(x, true), "01ff0b");
        for (int b : new int[] {-1, -128, -256, 256, 257, 511, 512, LEAST, GREATEST}) {
            due.refusesCall("change(1, " + b + ")", x, () -> x.change(1, b), NONE);
            due.refusesCall("change(3, " + b + ")", x, () -> x.change(3, b), NONE);
        }
    }

    /** "Byte i of PACKED": none of an empty row, 0 .. 639 of a full one, and never one of PLAIN. */
    private static void changeOfEmptyAndFullRows() {
        IntervalPacker x = ofPlain(400);
        due.refusesCall("change(0, 1) of nothing", x, () -> x.change(0, 1), NONE);
        IntervalPacker y = ofPacked(640);
        due.is("change(639, 8)", y.change(639, 8), (639 * 5 + 1) % 256);
        due.is("at(639)", y.at(639, true), 8);
        due.refusesCall("change(640, 8)", y, () -> y.change(640, 8), NONE);
        y.cut(639, true);
        due.refusesCall("change(639, 8) of what was cut", y, () -> y.change(639, 8), NONE);
    }

    /** "NONE when there is none." */
    private static void atAnswersPlacesThatThereAre() {
        IntervalPacker x = new IntervalPacker();
        x.feed(0xFF0080, 3, false);
        x.feed(0x7F01, 2, true);
        int[] plain = {255, 0, 128};
        int[] packed = {127, 1};
        for (int i = 0; i < 3; i++) {
            due.is("at(" + i + ", false)", x.at(i, false), plain[i]);
        }
        for (int i = 0; i < 2; i++) {
            due.is("at(" + i + ", true)", x.at(i, true), packed[i]);
        }
        for (int i : new int[] {-1, -2, 3, 4, 399, 400, LEAST, GREATEST}) {
            due.refusesCall("at(" + i + ", false)", x, () -> x.at(i, false), NONE);
        }
        for (int i : new int[] {-1, -2, 2, 3, 639, 640, LEAST, GREATEST}) {
            due.refusesCall("at(" + i + ", true)", x, () -> x.at(i, true), NONE);
        }
    }

    /** "NONE when there is none": of an empty row none, of a full one all of its places. */
    private static void atOfEmptyAndFullRows() {
        IntervalPacker x = ofPlain(400);
        due.is("at(0, true)", x.at(0, true), NONE);
        for (int i = 0; i < 400; i++) {
            due.is("at(" + i + ", false)", x.at(i, false), (i * 7 + 3) % 256);
        }
        due.is("at(400, false)", x.at(400, false), NONE);
        IntervalPacker y = ofPacked(640);
        due.is("at(0, false)", y.at(0, false), NONE);
        for (int i = 0; i < 640; i++) {
            due.is("at(" + i + ", true)", y.at(i, true), (i * 5 + 1) % 256);
        }
        due.is("at(640, true)", y.at(640, true), NONE);
    }

    /** "An object is used for at most 512 calls after it has been made": so many are answered. */
    private static void the512thCall() {
        IntervalPacker x = new IntervalPacker();
        for (int i = 1; i <= 400; i++) {
            due.is("call " + i, x.feed(i, 1, false), i);
        }
        for (int i = 401; i <= 510; i++) {
            due.is("call " + i, x.feed(i, 1, true), i - 400);
        }
        Steps s = new Steps(93);
        for (int i = 1; i <= 256; i++) {
            s.literal(i % 256);
        }
        s.copy(256, 144);
        due.is("call 511", x.pack(0, 93, 400), Maker.ofChunks(Maker.head(), s.chunk(224), 400).length() / 2);
        due.is("call 512", x.unpack(), 400);
    }
}
