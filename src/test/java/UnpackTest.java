/** Promise 8: unpack, of what is a container. */
public final class UnpackTest {
    private static final Due due = new Due();
    private static final String TEXT = Due.hexOf("Packs bytes by matches and a coder of intervals; "
            + "packs bytes by matches, unpacks bytes by matches.");

    public static void main(String[] args) {
        madeElsewhere();
        allSteps();
        manyChunks();
        longestCopy();
        emptyBlocks();
        headsOfAllSizes();
        dictionaryMadeEmptyAgain();
        upTo400();
        packedStays();
        due.end();
    }

    private static IntervalPacker unpacks(String container, String plain) {
        return due.takes("a container", container, plain);
    }

    /** Containers of another program for this format: each sort, three blocks with numbers, other properties. */
    private static void madeElsewhere() {
        String data = "e00061003d5d0028184866dca2f806f68096096a08f11f33e5e08e048577c44ab512d69d3dd00e18d04a503b1943df3a"
                + "6c0ade2b5affd6b179cd5470c93882015cbc400000000000";
        unpacks("fd377a585a000000ff12d9410200210116000000742fe5a3" + data
                + "000151624ad99a2006729e7a010000000000595a", TEXT);
        unpacks("fd377a585a0000016922de360200210116000000742fe5a3" + data
                + "bb28aff7000155624e1cf6449042990d010000000001595a", TEXT);
        unpacks("fd377a585a000004e6d6b4460200210116000000742fe5a3" + data
                + "4e9d804c3382750100015962425343e81fb6f37d010000000004595a", TEXT);
        IntervalPacker x = unpacks("fd377a585a0000016922de3602c02c2821011600acf1116f0100275061636b73206279746573206279"
                + "206d61746368657320616e64206120636f646572206f6620696e00c8b254fd02c02c2821011600acf1116f010027746572"
                + "76616c733b207061636b73206279746573206279206d6174636865732c20756e7061636b73007e647fdc02c01612210116"
                + "0040756121010011206279746573206279206d6174636865732e000000eeda99c400033c283c282612cac4076a3e300d8b"
                + "020000000001595a", TEXT);
        due.is("counts", Due.countsOf(x), "0 0 0 0 0 0 0 0 0 3 3");
        x = unpacks("fd377a585a000004e6d6b4460200210116000000742fe5a30100315061636b73206279746573206279206d6174636865"
                + "7320616e64206120636f646572206f6620696e74657276616c733b207000000019e03152457d5013020021011600000074"
                + "2fe5a3e0002f00201200309990acd291219c00a6f50d47ad57d32e0de97e1dd16c83a6d94e1d64d37000003551a850ff58"
                + "a34800024a323c30000025ae0919b1c467fb020000000004595a", TEXT);
        due.is("counts", Due.countsOf(x), "237 21 3 0 0 0 0 0 1 1 2");
    }

    /** Literals in each kind of state, near and far copies, single bytes, repeated 0 .. 3, all lengths' trees. */
    private static void allSteps() {
        IntervalPacker x = unpacks("fd377a585a000004e6d6b4460200210100000000372797d6e0010e00315d00349b8aeee65092a79e16"
                + "7aceb228650d0ec007dae96e03e652bf421ca9a9205d1093a2d4b5c3a89a550fd0a8971211140000000000197eef286702"
                + "3f8200014d8f02000000a7222ce9b1c467fb020000000004595a",
                "696e74657276616c76616c766121616c7661216c76616c766121616c76616c616c76616c616c76616c616c76616c616c6c61"
                + "6c6c616c6c616c6c616c6c616c6c616c6c61787961787961787961787961787961787961787961787961787961787961787"
                + "961787961787961787961787961787961787961787961787961787961787961"
                + "79657276616c6c7661696e74657276006e74657276616c76616c766121616c7661216c76616c766121616c76616c616c766"
                + "16c616c76616c616c76616c616c6c616c6c616c6c616c6c616c6c616c6c616c6c6178796178796178796178796178796178"
                + "79617879617879ff76616c616c76616c61796178797961787979617879796178797961787979617879");
        due.is("counts", Due.countsOf(x), "370 14 11 2 2 1 1 1 1 0 1");
        due.is("sum(false)", x.sum(false), 2032543250L);
    }

    /** Coded chunks of each sort, behind a plain one too, with three literal and four place bits. */
    private static void manyChunks() {
        IntervalPacker x = unpacks("fd377a585a0000016922de360200210100000000372797d6e000170013c70030988866131cebdfb3ed"
                + "03c260dc5fd2d72000a0000b00060003d114000000800001000500c047fc0000020004706c61696e800003000600d1357c"
                + "000000c0000a000700009c41d0ec610800002fbca1c20001643a3ac21be79042990d010000000001595a",
                "61626361626361626461626461627a7a7a7a7a7a7a7a7a71077a7a7a7a7a7a7a71077a7a7a09706c61696e7a7a7a6b6e7a7a"
                + "7a6b6e7a7a7a7576");
        due.is("counts", Due.countsOf(x), "213 17 3 1 1 1 0 0 5 1 1");
    }

    private static void longestCopy() {
        unpacks("fd377a585a000000ff12d9410200210100000000372797d6e00114000a5d00309888984c021375e00000000000011e9502000000"
                + "ddd76649a8000afc020000000000595a", "61626364".repeat(69) + "61");
    }

    private static void emptyBlocks() {
        IntervalPacker x = unpacks(Maker.start(0) + Maker.close(Maker.index(), 0), "");
        due.is("blocks", x.count(10), 0);
        String block = Maker.filled(Maker.head() + "00");
        x = unpacks(Maker.start(0) + block.repeat(3) + Maker.close(Maker.index(13, 0, 13, 0, 13, 0), 0), "");
        due.is("blocks", x.count(10), 3);
        x = unpacks(Maker.start(1) + block + "00000000" + Maker.close(Maker.index(17, 0), 1), "");
        due.is("blocks", x.count(10), 1);
        String sized = Maker.head(2, "c00100" + "210128");
        x = unpacks(Maker.start(4) + Maker.filled(sized + "00") + "0000000000000000"
                + Maker.close(Maker.index(21, 0), 4), "");
        due.is("blocks", x.count(10), 1);
        StringBuilder many = new StringBuilder(Maker.start(0));
        long[] records = new long[66];
        for (int i = 0; i < 33; i++) {
            many.append(block);
            records[2 * i] = 13;
        }
        x = unpacks(many + Maker.close(Maker.index(records), 0), "");
        due.is("blocks", x.count(10), 33);
    }

    private static void headsOfAllSizes() {
        String chunks = Maker.plainChunk(1, "616263");
        for (int h : new int[] {2, 3, 50, 130}) {
            unpacks(Maker.ofChunks(Maker.head(h, "00210128"), chunks, 3), "616263");
            unpacks(Maker.ofChunks(Maker.head(h, "4007210107"), chunks, 3), "616263");
            unpacks(Maker.ofChunks(Maker.head(h, "8003210100"), chunks, 3), "616263");
            unpacks(Maker.ofChunks(Maker.head(h, "c00703210100"), chunks, 3), "616263");
        }
        String wide = Maker.plainChunk(1, "61".repeat(200));
        unpacks(Maker.ofChunks(Maker.head(3, "c0cc01c801210100"), wide, 200), "61".repeat(200));
    }

    private static void dictionaryMadeEmptyAgain() {
        String one = Maker.plainChunk(1, "616263");
        IntervalPacker x = unpacks(Maker.ofChunks(Maker.head(), one + one + Maker.plainChunk(2, "64") + one, 10),
                "61626361626364616263");
        due.is("plain chunks", x.count(9), 4);
        // these data begin with a literal behind an empty dictionary
        String coded = Maker.codedChunk(224, 8, "5d", "003098889846ddcf9b00");
        unpacks(Maker.ofChunks(Maker.head(), one + coded + coded, 19), "616263" + "6162636463646364".repeat(2));
    }

    private static void upTo400() {
        String half = Maker.plainChunk(1, "55".repeat(200));
        unpacks(Maker.ofChunks(Maker.head(), half + half, 400), "55".repeat(400));
    }

    private static void packedStays() {
        IntervalPacker x = new IntervalPacker();
        String container = Maker.ofChunks(Maker.head(), Maker.plainChunk(1, "616263"), 3);
        Due.fill(x, container, true);
        x.unpack();
        due.is("PACKED", Due.hexOf(x, true), container);
        due.is("unpack() again", x.unpack(), 3);
        due.is("PLAIN again", Due.hexOf(x, false), "616263");
    }
}
