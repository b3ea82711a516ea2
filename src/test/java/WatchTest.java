/** Promises 10 to 12: watch, range, code. */
public final class WatchTest {
    private static final Due due = new Due();
    private static final String SMALL = "fd377a585a0000016922de360200210100000000372797d6e0000c00075d0030ec484000000000"
            + "00fad82ec800011f0d08c76d939042990d010000000001595a";
    // RANGE and CODE behind each bit of it
    private static final long[][] BITS = {{2147482624L, 820791360}, {1073740800, 820791360}, {536870912, 283921472},
        {268435456, 15486016}, {134217728, 15486016}, {67108864, 15486016}, {33554432, 15486016}, {16777216, 15486016},
        {8388608, 7097408}, {1073741824, 743194624}, {536870912, 206323712}, {268435456, 206323712},
        {134217728, 72105984}, {67108864, 4997120}, {33554432, 4997120}, {16777216, 4997120}, {8388608, 4997120},
        {1073741824, 205520896}, {536870912, 205520896}, {268435456, 205520896}, {134217728, 71303168},
        {67108864, 4194304}, {33554432, 4194304}, {16777216, 4194304}, {8388608, 4194304}, {1073741824, 0},
        {536870912, 0}};

    public static void main(String[] args) {
        eachBit();
        notWatched();
        fromTheNextOn();
        overTwoChunks();
        upToAFault();
        evenBits();
        codeNotBelowRange();
        due.end();
    }

    private static void kept(String when, IntervalPacker x, long range, long code) {
        due.is("range() " + when, x.range(), range);
        due.is("code() " + when, x.code(), code);
    }

    private static void eachBit() {
        IntervalPacker x = new IntervalPacker();
        Due.fill(x, SMALL, true);
        for (int k = 1; k <= BITS.length; k++) {
            due.is("watch(" + k + ")", x.watch(k), true);
            due.is("unpack()", x.unpack(), 13);
            kept("of " + k, x, BITS[k - 1][0], BITS[k - 1][1]);
        }
        for (int k : new int[] {BITS.length + 1, 1000, Integer.MAX_VALUE}) {
            due.is("watch(" + k + ")", x.watch(k), true);
            due.is("unpack()", x.unpack(), 13);
            kept("of " + k, x, -1, -1);
        }
    }

    private static void notWatched() {
        IntervalPacker x = new IntervalPacker();
        Due.fill(x, SMALL, true);
        kept("before all", x, -1, -1);
        x.unpack();
        kept("when none is watched", x, -1, -1);
        for (int k : new int[] {0, -1, Integer.MIN_VALUE}) {
            due.is("watch(" + k + ")", x.watch(k), false);
        }
        x.unpack();
        kept("when none is watched", x, -1, -1);
        x.watch(4);
        kept("before the next unpack()", x, -1, -1);
        due.is("watch(0)", x.watch(0), false);
        x.unpack();
        kept("as the wrong one changes nothing", x, 268435456, 15486016);
    }

    private static void fromTheNextOn() {
        IntervalPacker x = new IntervalPacker();
        Due.fill(x, SMALL, true);
        x.watch(3);
        x.unpack();
        x.watch(9);
        kept("of the latest unpack()", x, 536870912, 283921472);
        x.unpack();
        kept("of the next one", x, 8388608, 7097408);
        x.unpack();
        kept("of each one", x, 8388608, 7097408);
        x.cut(0, true);
        x.pack(0, 0, 1);
        kept("behind pack", x, 8388608, 7097408);
        x.cut(0, true);
        due.is("unpack() of nothing", x.unpack(), IntervalPacker.CUT);
        kept("of an unpack() without bits", x, -1, -1);
        Due.fill(x, SMALL, true);
        x.unpack();
        kept("of each one", x, 8388608, 7097408);
    }

    /** The bits are counted on from chunk to chunk and from block to block. */
    private static void overTwoChunks() {
        String coded = Maker.codedChunk(224, 13, "5d", "0030ec4840000000");
        IntervalPacker x = new IntervalPacker();
        Due.fill(x, Maker.ofChunks(Maker.head(), coded + coded, 26), true);
        x.watch(BITS.length + 3);
        due.is("unpack()", x.unpack(), 26);
        kept("in the second chunk", x, BITS[2][0], BITS[2][1]);
        String block = Maker.filled(Maker.head() + coded + "00");
        Due.fill(x, Maker.start(0) + block + block + Maker.close(Maker.index(27, 13, 27, 13), 0), true);
        due.is("unpack()", x.unpack(), 26);
        kept("in the second block", x, BITS[2][0], BITS[2][1]);
        due.is("bits", x.count(0), 2 * BITS.length);
    }

    private static void upToAFault() {
        String data = "003098889846e23a530000";
        IntervalPacker x = new IntervalPacker();
        Due.fill(x, Maker.ofChunks(Maker.head(), Maker.codedChunk(224, 8, "5d", data), 8), true);
        x.unpack();
        due.is("bits up to the fault", x.count(0), 49);
        x.watch(1);
        due.is("unpack()", x.unpack(), IntervalPacker.DATA);
        due.is("range() of 1", x.range(), 2147482624L);
        due.is("code() of 1", x.code(), 0x30988898L);
        x.watch(49);
        x.unpack();
        due.is("range() of the last", x.range() > 0, true);
        x.watch(50);
        x.unpack();
        kept("of none", x, -1, -1);
    }

    // k, RANGE and CODE behind the k-th bit; from 237 on they are even ones
    private static final long[][] EVEN = {{2, 1073740800, 882608878}, {73, 43918724, 2803890},
        {100, 1449271296, 16278797}, {200, 112374784, 100861340}, {237, 1135083520, 18477328},
        {238, 567541760, 18477328}, {305, 120480362, 92096815}, {306, 60240181, 31856634}};

    private static void evenBits() {
        IntervalPacker x = new IntervalPacker();
        Due.fill(x, "fd377a585a000004e6d6b4460200210100000000372797d6e0010e00315d00349b8aeee65092a79e167aceb228650d0ec007"
                + "dae96e03e652bf421ca9a9205d1093a2d4b5c3a89a550fd0a8971211140000000000197eef2867023f8200014d8f02000000"
                + "a7222ce9b1c467fb020000000004595a", true);
        for (long[] row : EVEN) {
            x.watch((int) row[0]);
            due.is("unpack()", x.unpack(), 271);
            kept("of " + row[0], x, row[1], row[2]);
        }
    }

    /** CODE is not cut when it begins as great as RANGE: each bit is 1 then, and it outgrows RANGE. */
    private static void codeNotBelowRange() {
        IntervalPacker x = new IntervalPacker();
        Due.fill(x, "fd377a585a000000ff12d9410200210100000000372797d6e0000000055d00307ffc000080012b000d00ffffffff01020304"
                + "05060708090000012c0085deb71906729e7a010000000000595a", true);
        long[][] rows = {{9, 8388608, 0}, {13, 268436479, 268436479}, {17, 16778239, 16778239},
            {21, 268468992, 268468993}, {25, 16780032, 16780033}, {29, 268492800, 268493058},
            {33, 18980000, 18980258}, {37, 343477536, 343543587}, {41, -1, -1}};
        for (long[] row : rows) {
            x.watch((int) row[0]);
            due.is("unpack()", x.unpack(), IntervalPacker.DATA);
            due.is("where()", x.where(), 41);
            kept("of " + row[0], x, row[1], row[2]);
        }
        due.is("counts", Due.countsOf(x), "39 1 0 0 0 0 0 1 1 0 0");
    }
}
