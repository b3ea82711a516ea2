/**
 * The boundary cases of promises 8 to 13, unpack, where, watch, range, code and count, each sentence with a
 * test of its own: the last value that counts, the first one that does not, and what a refused call leaves.
 */
public final class TellBoundsTest {
    private static final int NONE = IntervalPacker.NONE;
    private static final int CUT = IntervalPacker.CUT;
    private static final int FORM = IntervalPacker.FORM;
    private static final int SUMS = IntervalPacker.SUMS;
    private static final int LONG = IntervalPacker.LONG;
    private static final int DATA = IntervalPacker.DATA;
    private static final String NOTHING = "0 0 0 0 0 0 0 0 0 0 0";
    private static final Due due = new Due();

    private static final String ABC = Maker.plainChunk(1, "616263");

    public static void main(String[] args) {
        unpackOfZeroTo400();
        inPlaceOfWhatWasThere();
        plainStaysWithEachFault();
        packedStays();
        unpackAgain();
        whereBeforeTheFirst();
        whereOfTheLatest();
        whereFromZeroTo640();
        whereOfItemsBehind640();
        whereIsLeftByOtherCalls();
        watchFromOneOn();
        watchFromTheNextUnpackOn();
        watchInEachOfThem();
        watchUntilAnotherIsTold();
        refusedCallsLeaveTheNextUnpack();
        rangeOfTheFirstAndTheLastBit();
        rangeOverChunksAndBlocks();
        rangeUpToAFault();
        rangeWhenNoneWasWatched();
        rangeBeforeTheFirst();
        rangeOfEvenBits();
        rangeOfAnUnpackWithoutBits();
        countOfZeroToTen();
        countBeforeTheFirst();
        countOfEachKind();
        countOfTheLatest();
        literalInWhichAFaultWasMet();
        matchesInWhichAFaultWasMet();
        chunksInWhichAFaultWasMet();
        blocksInWhichAFaultWasMet();
        due.end();
    }

    /** Of all kinds of steps, in two coded chunks with a plain one between them. */
    private static Steps allKinds(StringBuilder chunks) {
        Steps s = new Steps(93);
        s.literals("6162636465").copy(5, 4).literal(0x21).single().copy(3, 3).repeated(0, 2).literal(0x22).repeated(1, 2);
        chunks.append(s.chunk(224)).append(s.plainChunk(2, "707172"));
        s.repeated(2, 3).literal(0x23).repeated(3, 4).single().copy(20, 20);
        chunks.append(s.chunk(128));
        return s;
    }

    private static final String KINDS = "8 3 2 1 1 1 1 2 1";

    /** "Answers how many bytes PLAIN has." */
    private static void unpackOfZeroTo400() {
        due.takes("nothing", Maker.start(0) + Maker.close(Maker.index(), 0), "");
        due.takes("an empty block", Maker.ofChunks(Maker.head(), "", 0), "");
        for (int n : new int[] {1, 2, 399, 400}) {
            String plain = "7b".repeat(n);
            due.takes(n + " bytes", Maker.ofChunks(Maker.head(), Maker.plainChunk(1, plain), n), plain);
        }
        String plain = "7b".repeat(401);
        due.refuses("401 bytes", Maker.ofChunks(Maker.head(), Maker.plainChunk(1, plain), 401), LONG, 27);
    }

    /** "Into PLAIN (in place of what was there)": a longer and a shorter row, a full one and none. */
    private static void inPlaceOfWhatWasThere() {
        for (int before : new int[] {0, 1, 2, 3, 4, 399, 400}) {
            IntervalPacker x = new IntervalPacker();
            Due.fill(x, "ee".repeat(before), false);
            Due.fill(x, Maker.ofChunks(Maker.head(), ABC, 3), true);
            due.is("unpack() of three", x.unpack(), 3);
            due.is("PLAIN", Due.hexOf(x, false), "616263");
            due.is("feed", x.feed(0x64, 1, false), 4);
            due.is("copy(5, 1)", x.copy(5, 1), NONE);
            Due.fill(x, Maker.start(0) + Maker.close(Maker.index(), 0), true);
            due.is("unpack() of none", x.unpack(), 0);
            due.is("PLAIN", Due.hexOf(x, false), "");
        }
    }

    /** "Or the fault, PLAIN staying as it was": of each fault, however many bytes were given before it. */
    private static void plainStaysWithEachFault() {
        String first = Maker.filled(Maker.head() + Maker.plainChunk(1, "61".repeat(390)) + "00");
        String open = Maker.start(0) + first;
        int place = open.length() / 2;
        String[] wrong = {open, open + "0002", open + Maker.with(Maker.head(), 8, 0),
            open + Maker.head() + Maker.plainChunk(1, "62".repeat(11)),
            open + Maker.head() + Maker.codedChunk(224, 10, "5d", "0100000000")};
        int[] faults = {CUT, FORM, SUMS, LONG, DATA};
        int[] places = {place, place + 1, place + 8, place + 15, place + 18};
        for (int i = 0; i < wrong.length; i++) {
            for (int before : new int[] {0, 1, 400}) {
                IntervalPacker x = new IntervalPacker();
                String plain = "ee".repeat(before);
                Due.fill(x, plain, false);
                Due.fill(x, wrong[i], true);
                due.is("fault " + i, x.unpack(), faults[i]);
                due.is("its place", x.where(), places[i]);
                due.is("PLAIN", Due.hexOf(x, false), plain);
                due.is("sum(false)", x.sum(false), sumOf(plain));
            }
        }
        due.takes("without one", open + Maker.filled(Maker.head() + Maker.plainChunk(1, "62".repeat(10)) + "00")
                + Maker.close(Maker.index(406, 390, 26, 10), 0), "61".repeat(390) + "62".repeat(10));
    }

    private static long sumOf(String hex) {
        IntervalPacker x = new IntervalPacker();
        Due.fill(x, hex, false);
        return x.sum(false);
    }

    private static void packedStays() {
        IntervalPacker x = new IntervalPacker();
        String container = Maker.ofChunks(Maker.head(), ABC, 3);
        Due.fill(x, container, true);
        x.unpack();
        due.is("PACKED", Due.hexOf(x, true), container);
        Due.fill(x, container + "77", true);
        x.unpack();
        due.is("PACKED", Due.hexOf(x, true), container + "77");
    }

    /** No unpack() leaves something to the next one, a fault in the midst of a coded chunk neither. */
    private static void unpackAgain() {
        StringBuilder chunks = new StringBuilder();
        Steps s = allKinds(chunks);
        String good = Maker.ofChunks(Maker.head(), chunks.toString(), s.given().length() / 2);
        IntervalPacker x = new IntervalPacker();
        for (int cut = 0; cut < good.length() / 2; cut += 3) {
            Due.fill(x, good.substring(0, 2 * cut), true);
            due.is("cut", x.unpack(), CUT);
            Due.fill(x, Maker.with(good, Math.max(31, cut), 0x77), true);
            due.is("changed", x.unpack() != s.given().length() / 2 || !Due.hexOf(x, false).equals(s.given())
                    || good.startsWith("77", 2 * Math.max(31, cut)), true);
            Due.fill(x, good, true);
            due.is("unpack()", x.unpack(), s.given().length() / 2);
            due.is("PLAIN", Due.hexOf(x, false), s.given());
            due.is("counts", Due.countsOf(x), s.bits() + " " + KINDS + " 1");
            due.is("where()", x.where(), NONE);
        }
    }

    /** "NONE when ... there was none." */
    private static void whereBeforeTheFirst() {
        IntervalPacker x = new IntervalPacker();
        due.is("where()", x.where(), NONE);
        x.feed(1, 1, true);
        x.feed(1, 1, false);
        x.pack(2, 0, 1);
        x.pack(0, 0, 1);
        x.watch(1);
        x.change(900, 1);
        due.is("where()", x.where(), NONE);
    }

    /** "The place of the fault of the latest unpack(); NONE when it had none." */
    private static void whereOfTheLatest() {
        IntervalPacker x = new IntervalPacker();
        due.is("unpack()", x.unpack(), CUT);
        due.is("where()", x.where(), 0);
        Due.fill(x, "fd377a585a000001", true);
        due.is("unpack()", x.unpack(), CUT);
        due.is("where()", x.where(), 8);
        Due.fill(x, Maker.ofChunks(Maker.head(), ABC, 3), true);
        due.is("unpack()", x.unpack(), 3);
        due.is("where()", x.where(), NONE);
        x.change(3, 0);
        due.is("unpack()", x.unpack(), FORM);
        due.is("where()", x.where(), 0);
        x.change(3, 0x58);
        due.is("unpack()", x.unpack(), 3);
        due.is("where()", x.where(), NONE);
    }

    /** The least place is 0, the greatest is behind the last byte of a full row. */
    private static void whereFromZeroTo640() {
        due.refuses("of an empty row", "", CUT, 0);
        due.refuses("of a full row", Maker.start(0) + Maker.head(156, "002101"), CUT, 640);
        String full = Maker.ofChunks(Maker.head(149, "002101"), "", 0);
        due.refuses("the last byte of a full row", full.substring(0, 1278) + "00", FORM, 628);
        String small = Maker.start(0) + Maker.close(Maker.index(), 0);
        String more = Maker.ofChunks(Maker.head(148, "002101"), "", 0);
        due.is("bytes", more.length() / 2, 636);
        due.refuses("the byte behind the end", more + "00", FORM, 636);
        due.refuses("608 bytes behind the end", small + "00".repeat(608), FORM, 32);
    }

    /** CUT in a full row: every item that would go on behind its last byte, at that item's first byte. */
    private static void whereOfItemsBehind640() {
        for (int sort : new int[] {0, 1, 4}) {
            for (int n = 330; n <= 400; n++) {
                String plain = "61".repeat(n);
                String block = Maker.head(60, "002101") + Maker.plainChunk(1, plain) + "00";
                String check = Maker.check(sort, plain);
                String whole = Maker.start(sort) + Maker.filled(block) + check
                        + Maker.close(Maker.index((block.length() + check.length()) / 2, n), sort);
                if (whole.length() / 2 <= 640) {
                    due.takes(n + " bytes, sort " + sort, whole, plain);
                } else {
                    due.refuses(n + " bytes, sort " + sort, whole.substring(0, 1280), CUT, lastItem(n, check.length() / 2));
                }
            }
        }
        String block = Maker.filled(Maker.head(155, "002101") + "00");
        due.refuses("a block up to the last byte", Maker.start(0) + block, CUT, 640);
    }

    /** The last item that begins no later than at 640: a head of 244 bytes and a plain chunk of n are before it. */
    private static int lastItem(int n, int check) {
        int chunk = 12 + 244;
        int last = n <= 640 - chunk - 3 ? chunk + 3 + n : chunk + 3;
        int filling = chunk + 3 + n + 1;
        int index = (filling + 3) / 4 * 4 + check;
        for (int place = filling; place < index - check && place <= 640; place++) {
            last = place;
        }
        // the check, 0, the number of blocks, SIZE and the gift of two bytes each, two that fill up, the sum, the end
        for (int place : new int[] {index - check, index, index + 1, index + 2, index + 4, index + 6, index + 7, index + 8,
            index + 12}) {
            last = place <= 640 ? place : last;
        }
        return last;
    }

    private static void whereIsLeftByOtherCalls() {
        IntervalPacker x = new IntervalPacker();
        Due.fill(x, "fd377a585a000001", true);
        x.unpack();
        x.cut(0, true);
        x.feed(0x6162, 2, false);
        x.copy(1, 3);
        x.pack(1, 93, 400);
        x.change(0, 1);
        x.watch(3);
        x.watch(0);
        x.pack(3, 93, 400);
        due.is("where()", x.where(), 8);
        due.is("unpack()", x.unpack(), FORM);
        due.is("where()", x.where(), 0);
    }

    private static IntervalPacker ofSteps(Steps s) {
        IntervalPacker x = new IntervalPacker();
        int n = s.given().length() / 2;
        Due.fill(x, Maker.ofChunks(Maker.head(), s.chunk(224), n), true);
        return x;
    }

    private static void kept(String when, IntervalPacker x, long range, long code) {
        due.is("range() " + when, x.range(), range);
        due.is("code() " + when, x.code(), code);
    }

    /** "True; false, changing nothing, when k is below 1." */
    private static void watchFromOneOn() {
        Steps s = new Steps(93).literals("616263");
        for (int k : new int[] {1, 2, 27}) {
            IntervalPacker x = ofSteps(s);
            due.is("watch(" + k + ")", x.watch(k), true);
        }
        due.is("watch(MAX)", new IntervalPacker().watch(Integer.MAX_VALUE), true);
        Steps t = new Steps(93).literals("616263");
        IntervalPacker x = ofSteps(t);
        for (int k : new int[] {0, -1, -2, Integer.MIN_VALUE, Integer.MIN_VALUE + 1}) {
            due.refusesCall("watch(" + k + ") of none", x, () -> x.watch(k) ? 1 : 0, 0);
            x.unpack();
            kept("when none is watched", x, NONE, NONE);
        }
        x.watch(4);
        x.unpack();
        kept("of 4", x, t.bit(4)[0], t.bit(4)[1]);
        for (int k : new int[] {0, -1, -4, Integer.MIN_VALUE}) {
            due.refusesCall("watch(" + k + ")", x, () -> x.watch(k) ? 1 : 0, 0);
            x.unpack();
            kept("of 4 still", x, t.bit(4)[0], t.bit(4)[1]);
        }
    }

    /** "From the next unpack() on": what was unpacked before stays as it was told. */
    private static void watchFromTheNextUnpackOn() {
        Steps s = new Steps(93).literals("616263");
        IntervalPacker x = ofSteps(s);
        x.unpack();
        x.watch(5);
        kept("before the next", x, NONE, NONE);
        x.unpack();
        kept("of the next", x, s.bit(5)[0], s.bit(5)[1]);
        x.watch(6);
        kept("of the latest", x, s.bit(5)[0], s.bit(5)[1]);
        x.unpack();
        kept("of the next", x, s.bit(6)[0], s.bit(6)[1]);
    }

    /** "In each of them." */
    private static void watchInEachOfThem() {
        Steps s = new Steps(93).literals("616263");
        IntervalPacker x = ofSteps(s);
        x.watch(20);
        String packed = Due.hexOf(x, true);
        for (int i = 0; i < 4; i++) {
            due.is("unpack()", x.unpack(), 3);
            kept("in each", x, s.bit(20)[0], s.bit(20)[1]);
            x.cut(6, true);
            due.is("unpack()", x.unpack(), CUT);
            kept("in one without bits", x, NONE, NONE);
            x.pack(0, 0, 1);
            Due.fill(x, packed, true);
        }
    }

    /** A refused call of any kind leaves to the next unpack() what it had: PACKED and the bit that is watched. */
    private static void refusedCallsLeaveTheNextUnpack() {
        Steps s = new Steps(93).literals("616263").repeated(0, 200);
        IntervalPacker x = ofSteps(s);
        x.watch(11);
        due.is("unpack()", x.unpack(), 203);
        kept("before", x, s.bit(11)[0], s.bit(11)[1]);
        due.is("feed", x.feed(1, 9, true), NONE);
        due.is("feed", x.feed(1, 0, false), NONE);
        due.is("copy", x.copy(204, 1), NONE);
        due.is("cut", x.cut(-1, true), NONE);
        due.is("change", x.change(0, 256), NONE);
        due.is("pack", x.pack(2, 93, 400), FORM);
        due.is("pack", x.pack(0, 93, 1), LONG);
        due.is("watch", x.watch(0), false);
        due.is("count", x.count(11), NONE);
        due.is("at", x.at(640, true), NONE);
        due.is("unpack()", x.unpack(), 203);
        kept("behind", x, s.bit(11)[0], s.bit(11)[1]);
        due.is("PLAIN", Due.hexOf(x, false), s.given());
    }

    /** "Until another k is told": the later one counts alone. */
    private static void watchUntilAnotherIsTold() {
        Steps s = new Steps(93).literals("616263");
        IntervalPacker x = ofSteps(s);
        x.watch(1);
        x.watch(27);
        x.watch(9);
        x.unpack();
        kept("of the last that was told", x, s.bit(9)[0], s.bit(9)[1]);
        x.watch(28);
        x.unpack();
        kept("of one that there is not", x, NONE, NONE);
        x.watch(1);
        x.unpack();
        kept("of the first", x, s.bit(1)[0], s.bit(1)[1]);
    }

    /** "Behind the k-th bit"; "NONE when there was no such bit": the first, the last, and one more. */
    private static void rangeOfTheFirstAndTheLastBit() {
        for (int n = 1; n <= 6; n++) {
            Steps s = new Steps(93).literals("a1b2c3d4e5f6".substring(0, 2 * n));
            IntervalPacker x = ofSteps(s);
            x.unpack();
            int bits = x.count(0);
            due.is("bits", bits, 9 * n);
            x.watch(1);
            x.unpack();
            kept("of the first", x, s.bit(1)[0], s.bit(1)[1]);
            x.watch(bits);
            x.unpack();
            // the SHIFT once more is behind it
            kept("of the last", x, s.bit(bits)[0], s.bit(bits)[1]);
            for (int k : new int[] {bits + 1, bits + 2, 1000000, Integer.MAX_VALUE}) {
                x.watch(k);
                due.is("unpack()", x.unpack(), n);
                kept("of none", x, NONE, NONE);
            }
        }
    }

    /** "The k-th bit that is taken in it": counted on over chunks and blocks. */
    private static void rangeOverChunksAndBlocks() {
        StringBuilder chunks = new StringBuilder();
        Steps s = allKinds(chunks);
        String block = Maker.filled(Maker.head() + chunks + "00");
        int size = 13 + chunks.length() / 2;
        int gift = s.given().length() / 2;
        IntervalPacker x = new IntervalPacker();
        Due.fill(x, Maker.start(0) + block + block + Maker.close(Maker.index(size, gift, size, gift), 0), true);
        for (int k = 1; k <= 2 * s.bits(); k++) {
            x.watch(k);
            due.is("unpack()", x.unpack(), 2 * gift);
            long[] bit = s.bit(k <= s.bits() ? k : k - s.bits());
            kept("of " + k, x, bit[0], bit[1]);
        }
        x.watch(2 * s.bits() + 1);
        x.unpack();
        kept("of none", x, NONE, NONE);
    }

    /** "(Up to a fault)": the last bit before it is told, the next one is not. */
    private static void rangeUpToAFault() {
        Steps s = new Steps(93).literals("616263").copy(4, 3);
        int bits = s.bits();
        IntervalPacker x = ofSteps(s);
        due.is("unpack()", x.unpack(), DATA);
        due.is("bits", x.count(0), bits);
        for (int k = 1; k <= bits; k++) {
            x.watch(k);
            due.is("unpack()", x.unpack(), DATA);
            kept("of " + k, x, s.bit(k)[0], s.bit(k)[1]);
        }
        x.watch(bits + 1);
        due.is("unpack()", x.unpack(), DATA);
        kept("behind the fault", x, NONE, NONE);
        // a fault behind the bits, in the end of the container
        Steps t = new Steps(93).literals("6162");
        IntervalPacker y = ofSteps(t);
        y.feed(0, 1, true);
        y.watch(18);
        due.is("unpack()", y.unpack(), FORM);
        kept("before the fault", y, t.bit(18)[0], t.bit(18)[1]);
        // a fault before all bits
        y.change(0, 0);
        due.is("unpack()", y.unpack(), FORM);
        kept("behind a fault at first", y, NONE, NONE);
    }

    /** "None was watched." */
    private static void rangeWhenNoneWasWatched() {
        IntervalPacker x = ofSteps(new Steps(93).literals("616263"));
        due.is("unpack()", x.unpack(), 3);
        kept("when none was watched", x, NONE, NONE);
        x.watch(2);
        kept("when none was watched in the latest", x, NONE, NONE);
    }

    /** "Or before the first." */
    private static void rangeBeforeTheFirst() {
        IntervalPacker x = ofSteps(new Steps(93).literals("616263"));
        kept("before all", x, NONE, NONE);
        x.watch(1);
        kept("before the first", x, NONE, NONE);
        x.feed(0x61, 1, false);
        x.copy(1, 100);
        x.pack(0, 93, 400);
        kept("behind pack()", x, NONE, NONE);
    }

    /** "(Even ones too)". */
    private static void rangeOfEvenBits() {
        Steps s = new Steps(0);
        String chunks = s.plainChunk(1, "0102030405".repeat(60));
        s.copy(300, 2).copy(257, 3);
        chunks += s.chunk(192);
        IntervalPacker x = new IntervalPacker();
        Due.fill(x, Maker.ofChunks(Maker.head(), chunks, 305), true);
        // 2 + 4 + 6 bits, three even ones and four of a tree, and the same again
        due.is("bits", s.bits(), 2 * 19);
        for (int k = 1; k <= s.bits(); k++) {
            x.watch(k);
            due.is("unpack()", x.unpack(), 305);
            kept("of " + k, x, s.bit(k)[0], s.bit(k)[1]);
        }
        due.is("count(0)", x.count(0), 38);
    }

    private static void rangeOfAnUnpackWithoutBits() {
        Steps s = new Steps(93).literals("616263");
        IntervalPacker x = ofSteps(s);
        x.watch(1);
        x.unpack();
        kept("of 1", x, s.bit(1)[0], s.bit(1)[1]);
        Due.fill(x, Maker.ofChunks(Maker.head(), ABC, 3), true);
        due.is("unpack() of a plain chunk", x.unpack(), 3);
        kept("of none", x, NONE, NONE);
        due.is("count(0)", x.count(0), 0);
    }

    /** "NONE when which is not 0 .. 10." */
    private static void countOfZeroToTen() {
        StringBuilder chunks = new StringBuilder();
        Steps s = allKinds(chunks);
        IntervalPacker x = new IntervalPacker();
        Due.fill(x, Maker.ofChunks(Maker.head(), chunks.toString(), s.given().length() / 2), true);
        for (int i = 0; i < 2; i++) {
            for (int which : new int[] {-1, -2, 11, 12, 64, Integer.MIN_VALUE, Integer.MAX_VALUE}) {
                due.refusesCall("count(" + which + ")", x, () -> x.count(which), NONE);
            }
            for (int which = 0; which <= 10; which++) {
                due.is("count(" + which + ")", x.count(which) >= i, true);
            }
            x.unpack();
        }
    }

    /** "0 before the first." */
    private static void countBeforeTheFirst() {
        IntervalPacker x = ofSteps(new Steps(93).literals("616263"));
        x.feed(0x616161, 3, false);
        due.is("counts", Due.countsOf(x), NOTHING);
        x.pack(0, 93, 400);
        due.is("counts behind pack()", Due.countsOf(x), NOTHING);
    }

    /** "0 bits were taken, 1 literals, 2 copies, 3 single bytes, 4 .. 7 repeated 0 .. 3, 8 coded chunks, ...". */
    private static void countOfEachKind() {
        StringBuilder chunks = new StringBuilder();
        Steps s = allKinds(chunks);
        IntervalPacker x = due.takes("all kinds", Maker.ofChunks(Maker.head(), chunks.toString(), s.given().length() / 2),
                s.given());
        due.is("counts", Due.countsOf(x), s.bits() + " " + KINDS + " 1");
        for (int k = 0; k <= 3; k++) {
            Steps t = new Steps(93).literal(0x61).repeated(k, 3);
            IntervalPacker y = ofSteps(t);
            y.unpack();
            for (int i = 0; i <= 3; i++) {
                due.is("count(" + (4 + i) + ")", y.count(4 + i), i == k ? 1 : 0);
            }
        }
    }

    /** "In the latest unpack()": the one before it does not count. */
    private static void countOfTheLatest() {
        StringBuilder chunks = new StringBuilder();
        Steps s = allKinds(chunks);
        IntervalPacker x = new IntervalPacker();
        Due.fill(x, Maker.ofChunks(Maker.head(), chunks.toString(), s.given().length() / 2), true);
        x.unpack();
        x.unpack();
        due.is("counts", Due.countsOf(x), s.bits() + " " + KINDS + " 1");
        x.pack(0, 0, 1);
        due.is("counts behind pack()", Due.countsOf(x), s.bits() + " " + KINDS + " 1");
        x.cut(5, true);
        due.is("unpack()", x.unpack(), CUT);
        due.is("counts of one without any", Due.countsOf(x), NOTHING);
    }

    private static String counts(int n, String data) {
        IntervalPacker x = new IntervalPacker();
        Due.fill(x, Maker.ofChunks(Maker.head(), ABC + Maker.codedChunk(224, n, "5d", data), n + 3), true);
        due.is("unpack()", x.unpack(), DATA);
        due.is("where()", x.where(), 36);
        return Due.countsOf(x);
    }

    /** "Literals ... in which this was met are left out, bits that were taken in them are not." */
    private static void literalInWhichAFaultWasMet() {
        Steps s = new Steps(93).literals("616263");
        String data = s.data();
        int size = data.length() / 2;
        // nine bits make RANGE too small: without a sixth byte the tenth is not taken
        due.is("five bytes", counts(3, data.substring(0, 10)), "9 1 0 0 0 0 0 0 0 1 0");
        for (int m = 6; m < size; m++) {
            String told = counts(3, data.substring(0, 2 * m));
            int bits = s.bitsWith(m);
            due.is("of " + m + " bytes", told, bits + " " + bits / 9 + " 0 0 0 0 0 0 0 1 0");
        }
        due.is("a byte more", counts(3, data + "00"), "27 3 0 0 0 0 0 0 0 1 0");
        due.is("four bytes", counts(3, data.substring(0, 8)), "0 0 0 0 0 0 0 0 0 1 0");
        due.is("a first byte that is not 0", counts(3, Maker.with(data, 0, 1)), "0 0 0 0 0 0 0 0 0 1 0");
    }

    /** The same of copies, single bytes and repeated ones. */
    private static void matchesInWhichAFaultWasMet() {
        Steps copy = new Steps(93).literals("6162").copy(3, 2);
        due.is("a copy", counts(4, copy.data()), copy.bits() + " 2 0 0 0 0 0 0 0 1 0");
        Steps longer = new Steps(93).literals("6162").copy(2, 4);
        due.is("a copy behind n", counts(5, longer.data()), longer.bits() + " 2 0 0 0 0 0 0 0 1 0");
        Steps right = new Steps(93).literals("6162").copy(2, 4);
        due.is("a copy before it", counts(6, right.data() + "00"), right.bits() + " 2 1 0 0 0 0 0 0 1 0");
        Steps single = new Steps(93).single();
        due.is("a single byte", counts(1, single.data()), "4 0 0 0 0 0 0 0 0 1 0");
        for (int k = 0; k <= 3; k++) {
            Steps s = new Steps(93).repeated(k, 2);
            due.is("repeated " + k, counts(2, s.data()), s.bits() + " 0 0 0 0 0 0 0 0 1 0");
            Steps t = new Steps(93).literal(0x61).repeated(k, 20);
            due.is("repeated " + k + " behind n", counts(20, t.data()), t.bits() + " 1 0 0 0 0 0 0 0 1 0");
        }
    }

    private static void told(String what, String container, int fault, String want) {
        IntervalPacker x = new IntervalPacker();
        Due.fill(x, container, true);
        due.is(what, x.unpack(), fault);
        due.is(what + ", counts", Due.countsOf(x), want);
    }

    /** "Chunks ... in which this was met are left out." */
    private static void chunksInWhichAFaultWasMet() {
        Steps s = new Steps(93);
        String coded = s.literals("6162").chunk(224);
        String open = Maker.start(0) + Maker.head() + coded + Maker.plainChunk(2, "63");
        String before = "18 2 0 0 0 0 0 0 1 1 0";
        told("no c", open, CUT, before);
        told("a wrong c", open + "7f", FORM, before);
        told("a plain one without n", open + "0200", CUT, before);
        told("a plain one less a byte", open + "02000161", CUT, before);
        told("a plain one", open + "0200016161", CUT, "18 2 0 0 0 0 0 0 1 2 0");
        told("a long plain one", open + Maker.plainChunk(2, "61".repeat(398)), LONG, before);
        told("a coded one with wrong properties", open + "e000000004e1", FORM, before);
        told("a coded one less a byte", open + coded.substring(0, coded.length() - 2), CUT, before);
        told("a coded one", open + coded, CUT, "36 4 0 0 0 0 0 0 2 1 0");
        told("a long coded one", open + Maker.codedChunk(224, 398, "5d", "0000000000"), LONG, before);
        String data = coded.substring(12);
        told("a coded one with a byte too many", open + Maker.codedChunk(224, 2, "5d", data + "00"), DATA,
                "36 4 0 0 0 0 0 0 1 1 0");
    }

    /** "Blocks in which this was met are left out": a block ends with its check. */
    private static void blocksInWhichAFaultWasMet() {
        String open = Maker.start(1) + Maker.filled(Maker.head() + Maker.plainChunk(1, "61") + "00");
        String sum = Maker.sumFour("61");
        told("cut filling", open.substring(0, open.length() - 2), CUT, "0 0 0 0 0 0 0 0 0 1 0");
        told("wrong filling", open.substring(0, open.length() - 2) + "01", FORM, "0 0 0 0 0 0 0 0 0 1 0");
        told("no check", open, CUT, "0 0 0 0 0 0 0 0 0 1 0");
        told("half a check", open + sum.substring(0, 6), CUT, "0 0 0 0 0 0 0 0 0 1 0");
        told("a wrong check", open + "00000000", SUMS, "0 0 0 0 0 0 0 0 0 1 0");
        told("a check", open + sum, CUT, "0 0 0 0 0 0 0 0 0 1 1");
        told("an index", open + sum + "0002", FORM, "0 0 0 0 0 0 0 0 0 1 1");
        told("a second head", open + sum + "02", CUT, "0 0 0 0 0 0 0 0 0 1 1");
        told("a second one with wrong numbers", open + sum + Maker.head(2, "8002210100") + Maker.plainChunk(1, "61")
                + "00", DATA, "0 0 0 0 0 0 0 0 0 2 1");
        String plain = Maker.start(0) + Maker.filled(Maker.head() + Maker.plainChunk(1, "61") + "00");
        told("without a check", plain, CUT, "0 0 0 0 0 0 0 0 0 1 1");
        told("the last of three bytes that fill up", plain.substring(0, plain.length() - 2), CUT, "0 0 0 0 0 0 0 0 0 1 0");
    }
}
