/**
 * The boundary cases of THE CONTAINER, its blocks and heads, a VLI, and of UNPACKING them, each sentence with
 * a test of its own: what is just taken, what is just not, the fault and its place, and that PLAIN stays.
 */
public final class ContainerBoundsTest {
    private static final int CUT = IntervalPacker.CUT;
    private static final int FORM = IntervalPacker.FORM;
    private static final int SUMS = IntervalPacker.SUMS;
    private static final int DATA = IntervalPacker.DATA;
    private static final int[] SORTS = {0, 1, 4};
    private static final Due due = new Due();

    private static final String ABC = Maker.plainChunk(1, "616263");
    private static final String EMPTY_BLOCK = Maker.filled(Maker.head() + "00");
    private static final String ABC_BLOCK = Maker.filled(Maker.head() + ABC + "00");

    public static void main(String[] args) {
        sixBytes();
        sixBytesCut();
        flags();
        flagsCut();
        sumOfFlags();
        noBlock();
        asManyBlocksAsThereIsRoomFor();
        blockOrIndex();
        blocksOfEachLength();
        fillingOfABlock();
        checkOfEachSort();
        checkOfEachBlock();
        headCut();
        headOfTheLeastSize();
        headOfTheGreatestSize();
        sumOfAHead();
        secondByteOfAHead();
        numbersThatMayFollow();
        chunksOfNoByte();
        chunksThatGiveNothing();
        numbersOfAHeadThatDiffer();
        numbersAreMetWhenTheChunksEnd();
        thirtyThreeAndOne();
        zeroToForty();
        bytesUpToTheSum();
        itemsThatReachIntoTheSum();
        numbersOfOneToNineBytes();
        numberOfNineBytesWithTheLastAbove127();
        lastOfSeveralIsNotZero();
        numbersAtOneAndTwoBytes();
        indexBegins();
        indexTellsHowManyBlocks();
        indexTellsSizes();
        indexTellsGifts();
        indexIsFilledUp();
        numbersOfTheIndexCut();
        sumOfTheIndex();
        endCut();
        sumOfTheEnd();
        endTellsTheQuarter();
        endHasTheFlags();
        endHasTwoBytes();
        noByteIsLeft();
        fullPacked();
        faultsHaveTheirOrder();
        due.end();
    }

    private static String containerOf(String blocks, long... records) {
        return Maker.start(0) + blocks + Maker.close(Maker.index(records), 0);
    }

    private static String withHead(String head) {
        return Maker.ofChunks(head, ABC, 3);
    }

    /** "Six bytes 0xFD 0x37 0x7A 0x58 0x5A 0x00": each of them, and no other one in its place. */
    private static void sixBytes() {
        String good = containerOf("");
        due.takes("the six bytes", good, "");
        for (int i = 0; i < 6; i++) {
            int right = Integer.parseInt(good.substring(2 * i, 2 * i + 2), 16);
            for (int b = 0; b <= 255; b++) {
                if (b != right) {
                    due.refuses("byte " + i + " is " + b, Maker.with(good, i, b), FORM, 0);
                }
            }
        }
    }

    /** "CUT, too few bytes are left for the item", even if they are other ones; with six it is FORM. */
    private static void sixBytesCut() {
        for (int n = 0; n < 6; n++) {
            due.refuses(n + " bytes", "fd377a585a00".substring(0, 2 * n), CUT, 0);
            due.refuses(n + " other bytes", "010203040506".substring(0, 2 * n), CUT, 0);
        }
        due.refuses("six other bytes", "010203040506", FORM, 0);
        due.refuses("six bytes", "fd377a585a00", CUT, 6);
    }

    /** "Two FLAGS, 0 and the SORT of the check, 0, 1 or 4." */
    private static void flags() {
        for (int b = 0; b <= 255; b++) {
            boolean isSort = b == 0 || b == 1 || b == 4;
            if (isSort) {
                due.takes("sort " + b, Maker.start(b) + Maker.close(Maker.index(), b), "");
            } else {
                due.refuses("sort " + b, Maker.start(b) + Maker.close(Maker.index(), b), FORM, 6);
            }
            if (b != 0) {
                String other = "fd377a585a00" + Maker.withSum(String.format("%02x01", b));
                due.refuses("first flag " + b, other + Maker.close(Maker.index(), 1), FORM, 6);
            }
        }
    }

    /** The flags are one item of two bytes. */
    private static void flagsCut() {
        due.refuses("no flag", "fd377a585a00", CUT, 6);
        due.refuses("one flag", "fd377a585a0000", CUT, 6);
        due.refuses("one wrong flag", "fd377a585a0001", CUT, 6);
        due.refuses("two flags", "fd377a585a000001", CUT, 8);
        due.refuses("two wrong flags", "fd377a585a000002", FORM, 6);
    }

    /** "SUM4 of the flags (4 bytes)": each byte of it; with less than four it is CUT. */
    private static void sumOfFlags() {
        for (int sort : SORTS) {
            String start = Maker.start(sort);
            for (int i = 8; i < 12; i++) {
                due.refuses("cut at " + i, start.substring(0, 2 * i), CUT, 8);
                int b = Integer.parseInt(start.substring(2 * i, 2 * i + 2), 16);
                due.refuses("byte " + i, Maker.with(start, i, b ^ 1), SUMS, 8);
                due.refuses("byte " + i, Maker.with(start, i, b ^ 128), SUMS, 8);
            }
            due.refuses("behind the sum", start, CUT, 12);
        }
    }

    /** "BLOCKS": there may be none. */
    private static void noBlock() {
        for (int sort : SORTS) {
            IntervalPacker x = due.takes("no block", Maker.start(sort) + Maker.close(Maker.index(), sort), "");
            due.is("blocks", x.count(10), 0);
        }
    }

    /** "BLOCKS": so many as 640 bytes hold, and all of them are in the index. */
    private static void asManyBlocksAsThereIsRoomFor() {
        for (int n = 1; n <= 33; n++) {
            long[] records = new long[2 * n];
            for (int i = 0; i < n; i++) {
                records[2 * i] = 13;
            }
            String blocks = EMPTY_BLOCK.repeat(n);
            IntervalPacker x = due.takes(n + " blocks", containerOf(blocks, records), "");
            due.is("blocks", x.count(10), n);
            records[2 * n - 1] = 1;
            int place = 12 + 16 * n + 2 + 2 * n - 1;
            due.refuses("the last gift", containerOf(blocks, records), FORM, place);
            records[2 * n - 1] = 0;
            records[2 * n - 2] = 14;
            due.refuses("the last size", containerOf(blocks, records), FORM, place - 1);
        }
        String most = Maker.start(0) + EMPTY_BLOCK.repeat(39);
        IntervalPacker x = due.refuses("39 blocks", most, CUT, 636);
        due.is("blocks", x.count(10), 39);
        due.refuses("39 blocks and the index's 0 and 39", most + "0027", CUT, 638);
        due.refuses("39 blocks and the index's 0 and 38", most + "0026", FORM, 637);
        due.refuses("39 blocks and a head", most + "02000000", CUT, 636);
    }

    /** "THE INDEX: a byte 0"; a head begins with 1 .. 255. */
    private static void blockOrIndex() {
        String start = Maker.start(0);
        due.refuses("neither", start, CUT, 12);
        due.refuses("an index", start + "00", CUT, 13);
        for (int h = 1; h <= 255; h++) {
            due.refuses("a head of h " + h, start + String.format("%02x", h), CUT, 12);
        }
        due.refuses("behind a block", start + EMPTY_BLOCK, CUT, 28);
        due.refuses("an index behind a block", start + EMPTY_BLOCK + "00", CUT, 29);
        due.refuses("a head behind a block", start + EMPTY_BLOCK + "02", CUT, 28);
    }

    /** "Bytes 0 until it has a multiple of four bytes": three, two, one or none. */
    private static void blocksOfEachLength() {
        for (int n = 1; n <= 8; n++) {
            String plain = "a7".repeat(n);
            for (int sort : SORTS) {
                due.takes(n + " bytes", Maker.checked(sort, Maker.plainChunk(1, plain), plain), plain);
            }
        }
    }

    /** "Each byte 0 that fills up" is an item: CUT and FORM are told at it. */
    private static void fillingOfABlock() {
        for (int n = 1; n <= 4; n++) {
            String block = Maker.head() + Maker.plainChunk(1, "a7".repeat(n)) + "00";
            int place = 12 + block.length() / 2;
            int filling = 4 - n;
            for (int i = 0; i < filling; i++) {
                String before = Maker.start(0) + block + "00".repeat(i);
                due.refuses("filling " + i + " is cut", before, CUT, place + i);
                for (int b : new int[] {1, 128, 255}) {
                    due.refuses("filling " + i + " is " + b, before + String.format("%02x", b), FORM, place + i);
                }
            }
            due.refuses("no more", Maker.start(0) + Maker.filled(block), CUT, place + filling);
            due.refuses("the index", Maker.start(0) + Maker.filled(block) + "00", CUT, place + filling + 1);
        }
    }

    /** "The CHECK: nothing (sort 0), SUM4 (1) or SUM8 (4) of the bytes that it gives." */
    private static void checkOfEachSort() {
        for (int sort : new int[] {1, 4}) {
            String good = Maker.checked(sort, ABC, "616263");
            due.takes("a check", good, "616263");
            int size = sort == 1 ? 4 : 8;
            for (int i = 0; i < size; i++) {
                int b = Integer.parseInt(good.substring(64 + 2 * i, 66 + 2 * i), 16);
                due.refuses("byte " + i + " of a check", Maker.with(good, 32 + i, b ^ 1), SUMS, 32);
                due.refuses("byte " + i + " of a check", Maker.with(good, 32 + i, b ^ 128), SUMS, 32);
                due.refuses("cut in a check", good.substring(0, 64 + 2 * i), CUT, 32);
            }
            due.refuses("behind a check", good.substring(0, 64 + 2 * size), CUT, 32 + size);
            due.takes("a check of nothing", Maker.checked(sort, "", ""), "");
            due.refuses("a check of nothing that is not 0",
                    Maker.start(sort) + EMPTY_BLOCK + "01" + "00".repeat(size - 1), SUMS, 28);
        }
        due.takes("no check", Maker.checked(0, ABC, "616263"), "616263");
        due.refuses("a check where none is due", Maker.start(0) + ABC_BLOCK + Maker.sumFour("616263"), CUT, 32);
    }

    /** The check is one "of the bytes that it gives", the block: not of those before it. */
    private static void checkOfEachBlock() {
        String first = ABC_BLOCK;
        String second = Maker.filled(Maker.head() + Maker.plainChunk(1, "64") + "00");
        for (int sort : SORTS) {
            int size = sort == 0 ? 0 : sort == 1 ? 4 : 8;
            String good = Maker.start(sort) + first + Maker.check(sort, "616263") + second + Maker.check(sort, "64");
            due.takes("two blocks", good + Maker.close(Maker.index(19 + size, 3, 17 + size, 1), sort), "61626364");
            if (sort != 0) {
                due.refuses("the sum of both", Maker.start(sort) + first + Maker.check(sort, "616263") + second
                        + Maker.check(sort, "61626364"), SUMS, 52 + size);
            }
        }
    }

    /** "Of a head CUT is looked for first": at its first byte, whatever is in it. */
    private static void headCut() {
        for (int h : new int[] {1, 2, 3, 130}) {
            String head = Maker.head(h, "002101");
            for (int n = 2; n < head.length(); n += 2) {
                due.refuses("a head of h " + h + " with " + n / 2 + " bytes", Maker.start(0) + head.substring(0, n),
                        CUT, 12);
            }
            String wrong = String.format("%02x", h) + "ff".repeat(4 * h + 2);
            due.refuses("a wrong head that is cut", Maker.start(0) + wrong, CUT, 12);
        }
        due.refuses("a whole head", Maker.start(0) + Maker.head(), CUT, 24);
    }

    /** "H being its first one, 1 .. 255": with 1 the byte 0 .. 40 has no room, with 2 it has. */
    private static void headOfTheLeastSize() {
        due.refuses("h = 1", withHead(Maker.head(1, "002101")), FORM, 16);
        due.takes("h = 2", withHead(Maker.head(2, "002101")), "616263");
    }

    /** "H being its first one, 1 .. 255": the greatest that PACKED holds; a greater one is CUT. */
    private static void headOfTheGreatestSize() {
        String chunks = Maker.plainChunk(1, "61".repeat(2));
        String container = Maker.ofChunks(Maker.head(147, "002101"), chunks, 2);
        due.takes("h = 147", container, "6161");
        String empty = Maker.ofChunks(Maker.head(149, "002101"), "", 0);
        due.is("bytes", empty.length() / 2, 640);
        due.takes("h = 149", empty, "");
        String whole = Maker.start(0) + Maker.head(156, "002101");
        due.is("bytes", whole.length() / 2, 640);
        due.refuses("h = 156", whole, CUT, 640);
        due.refuses("h = 157", Maker.start(0) + "9d" + "00".repeat(627), CUT, 12);
        due.refuses("h = 255", Maker.start(0) + "ff" + "00".repeat(627), CUT, 12);
    }

    /** "The last four are SUM4 of those before them": each byte of it, looked for before the other items. */
    private static void sumOfAHead() {
        for (int h : new int[] {1, 2, 3}) {
            String good = withHead(Maker.head(h, "002101"));
            int sum = 12 + 4 * h;
            for (int i = 0; i < 4; i++) {
                int b = Integer.parseInt(good.substring(2 * (sum + i), 2 * (sum + i) + 2), 16);
                due.refuses("byte " + i + " of the sum", Maker.with(good, sum + i, b ^ 1), SUMS, sum);
                due.refuses("byte " + i + " of the sum", Maker.with(good, sum + i, b ^ 128), SUMS, sum);
            }
            for (int i = 13; i < sum; i++) {
                due.refuses("byte " + i, Maker.with(good, i, 0x55), SUMS, sum);
            }
        }
    }

    /** "A byte, 0, and 64 more if ..., and 128 more if ...": four of 256 are right. */
    private static void secondByteOfAHead() {
        for (int b = 0; b <= 255; b++) {
            String rest = b == 64 ? "07" : b == 128 ? "03" : b == 192 ? "0703" : "";
            String container = withHead(Maker.head(3, String.format("%02x", b) + rest + "210100"));
            if (b % 64 == 0) {
                due.takes("second byte " + b, container, "616263");
            } else {
                due.refuses("second byte " + b, container, FORM, 13);
            }
        }
    }

    /** The number of the chunks' bytes goes before that of the bytes that it gives; both are looked at. */
    private static void numbersThatMayFollow() {
        due.takes("both", withHead(Maker.head(2, "c00703210100")), "616263");
        due.refuses("both the other way", withHead(Maker.head(2, "c00307210100")), DATA, 12);
        due.refuses("64 but it is the gift", withHead(Maker.head(2, "4003210100")), DATA, 12);
        due.refuses("128 but it is the size", withHead(Maker.head(2, "8007210100")), DATA, 12);
        due.refuses("64 without a number", withHead(Maker.head(2, "40210100")), FORM, 15);
        due.refuses("0 with a number", withHead(Maker.head(2, "0007210100")), FORM, 14);
    }

    /** "The number of bytes of the chunks, their end with them ... (a VLI, not 0)": 1 is the least. */
    private static void chunksOfNoByte() {
        due.takes("1", Maker.ofChunks(Maker.head(2, "4001210100"), "", 0), "");
        due.refuses("0", Maker.ofChunks(Maker.head(2, "4000210100"), "", 0), FORM, 14);
        due.refuses("0 goes before what comes behind", withHead(Maker.head(2, "c000ff200100")), FORM, 14);
    }

    /** "The number of bytes that it gives": it may be 0. */
    private static void chunksThatGiveNothing() {
        due.takes("0", Maker.ofChunks(Maker.head(2, "8000210100"), "", 0), "");
        due.refuses("1", Maker.ofChunks(Maker.head(2, "8001210100"), "", 0), DATA, 12);
        due.takes("both", Maker.ofChunks(Maker.head(2, "c00100210100"), "", 0), "");
        due.refuses("0 of three", withHead(Maker.head(2, "8000210100")), DATA, 12);
    }

    /** "If the numbers in it are not what the chunks have and give, that is DATA at the head." */
    private static void numbersOfAHeadThatDiffer() {
        for (int n = 1; n <= 20; n++) {
            String size = withHead(Maker.head(2, String.format("40%02x210100", n)));
            String gift = withHead(Maker.head(2, String.format("80%02x210100", n)));
            if (n == 7) {
                due.takes("size " + n, size, "616263");
            } else {
                due.refuses("size " + n, size, DATA, 12);
            }
            if (n == 3) {
                due.takes("gift " + n, gift, "616263");
            } else {
                due.refuses("gift " + n, gift, DATA, 12);
            }
        }
        due.refuses("the gift of both", withHead(Maker.head(2, "c00702210100")), DATA, 12);
        due.refuses("the size of both", withHead(Maker.head(2, "c00603210100")), DATA, 12);
        due.refuses("of a second block", Maker.start(0) + ABC_BLOCK + Maker.head(2, "8006210100") + ABC + "0000",
                DATA, 32);
        due.takes("of a second block", Maker.start(0) + ABC_BLOCK + Maker.filled(Maker.head(2, "c00703210100") + ABC
                + "00") + Maker.close(Maker.index(19, 3, 19, 3), 0), "616263616263");
    }

    /** "Met when the chunks have ended": behind every fault in them, before the bytes that fill up. */
    private static void numbersAreMetWhenTheChunksEnd() {
        String open = Maker.start(0) + Maker.head(2, "c00104210100");
        due.refuses("before the end", open + ABC, CUT, 30);
        due.refuses("before a wrong chunk", open + ABC + "03", FORM, 30);
        due.refuses("at the end", open + ABC + "00", DATA, 12);
        due.refuses("before the filling", open + ABC + "0001", DATA, 12);
        String checked = Maker.start(1) + Maker.head(2, "8002210100") + ABC + "0000";
        due.refuses("before the check", checked + "00000000", DATA, 12);
    }

    /** "Then 33, 1": two items, each with this byte alone. */
    private static void thirtyThreeAndOne() {
        for (int b = 0; b <= 255; b++) {
            if (b != 33) {
                due.refuses("33 is " + b, withHead(Maker.head(2, String.format("00%02x0100", b))), FORM, 14);
            }
            if (b != 1) {
                due.refuses("1 is " + b, withHead(Maker.head(2, String.format("0021%02x00", b))), FORM, 15);
            }
        }
        due.refuses("33 goes before 1", withHead(Maker.head(2, "00200229")), FORM, 14);
        due.refuses("1 goes before 0 .. 40", withHead(Maker.head(2, "00210229")), FORM, 15);
    }

    /** "And a byte 0 .. 40." */
    private static void zeroToForty() {
        for (int b = 0; b <= 255; b++) {
            String container = withHead(Maker.head(2, String.format("002101%02x", b)));
            if (b <= 40) {
                due.takes("byte " + b, container, "616263");
            } else {
                due.refuses("byte " + b, container, FORM, 16);
            }
        }
    }

    /** "And bytes 0 up to the sum": each of them is an item. */
    private static void bytesUpToTheSum() {
        for (int h : new int[] {2, 3, 5}) {
            String zeros = "00".repeat(4 * h - 5);
            due.takes("zeros", withHead(Maker.head(h, "00210100" + zeros)), "616263");
            for (int i = 0; i < 4 * h - 5; i++) {
                for (int b : new int[] {1, 255}) {
                    String rest = "00210100" + Maker.with(zeros, i, b);
                    due.refuses("byte " + i + " of h " + h, withHead(Maker.head(h, rest)), FORM, 17 + i);
                }
            }
        }
        // with both numbers in a head of twelve bytes one byte is left, with longer ones none
        due.takes("one", withHead(Maker.head(2, "c0070321010000")), "616263");
        due.refuses("one that is not 0", withHead(Maker.head(2, "c0070321010001")), FORM, 19);
        String long128 = Maker.plainChunk(1, "61".repeat(128));
        due.takes("none", Maker.ofChunks(Maker.head(2, "80800121010a"), long128, 128), "61".repeat(128));
    }

    /** "(FORM if one reaches into the sum)": at the first byte of the item. */
    private static void itemsThatReachIntoTheSum() {
        due.refuses("0 .. 40", withHead(Maker.head(1, "002101")), FORM, 16);
        due.refuses("1", withHead(Maker.head(1, "400721")), FORM, 16);
        due.refuses("33", withHead(Maker.head(1, "c00703")), FORM, 16);
        due.refuses("a number", withHead(Maker.head(1, "c00783")), FORM, 15);
        due.refuses("a number of three bytes", withHead(Maker.head(1, "408780")), FORM, 14);
        due.refuses("33 behind a number", withHead(Maker.head(1, "408701")), FORM, 16);
        due.refuses("the second number", withHead(Maker.head(2, "c0ffffffffff01")), FORM, 20);
        due.refuses("the first number", withHead(Maker.head(2, "c0ffffffffffff")), FORM, 14);
        due.refuses("nine bytes up to the sum", withHead(Maker.head(2, "8080ffffffffff")), FORM, 14);
        // the sum's own bytes would go on as a number: it is never read as one
        for (int i = 0; i < 200; i++) {
            String head = Maker.head(2, String.format("80%02x8080808080", 128 + i % 128));
            due.refuses("whatever the sum is", withHead(head), FORM, 14);
        }
    }

    /** "A number in 1 to 9 bytes": all of these are read, so that only the chunks tell that they differ. */
    private static void numbersOfOneToNineBytes() {
        for (int n = 1; n <= 9; n++) {
            String number = "ff".repeat(n - 1) + "7f";
            due.refuses("a size of " + n + " bytes", withHead(Maker.head(6, "40" + number + "210100")), DATA, 12);
            due.refuses("a gift of " + n + " bytes", withHead(Maker.head(6, "80" + number + "210100")), DATA, 12);
            String least = "80".repeat(n - 1) + "01";
            due.refuses("the least of " + n + " bytes", withHead(Maker.head(6, "40" + least + "210100")), DATA, 12);
            due.refuses("two of them", withHead(Maker.head(7, "c0" + number + least + "210100")), DATA, 12);
        }
        due.refuses("what is behind nine", withHead(Maker.head(6, "40" + "ff".repeat(8) + "7f" + "220100")), FORM, 23);
        // the lowest seven bits first: 7 and 2^56 are not 7
        due.refuses("the ninth byte counts", withHead(Maker.head(6, "4087" + "80".repeat(7) + "01210100")), DATA, 12);
    }

    /** "A VLI of nine bytes with the last above 127" is FORM. */
    private static void numberOfNineBytesWithTheLastAbove127() {
        String nine = "40" + "80".repeat(8);
        due.refuses("127", withHead(Maker.head(6, nine + "7f" + "210100")), DATA, 12);
        for (int b = 128; b <= 255; b++) {
            due.refuses("" + b, withHead(Maker.head(6, nine + String.format("%02x", b) + "210100")), FORM, 14);
        }
        due.refuses("the second one", withHead(Maker.head(6, "c007" + "ff".repeat(9) + "01210100")), FORM, 15);
        String open = Maker.start(0) + ABC_BLOCK;
        due.refuses("of the index, eight", open + "00" + "81" + "80".repeat(7), CUT, 33);
        due.refuses("of the index, nine", open + "00" + "81" + "80".repeat(7) + "80", FORM, 33);
        due.refuses("of the index, nine and 127", open + "00" + "81" + "80".repeat(7) + "7f", FORM, 33);
    }

    /** "The last of several is not 0"; of one byte it may be. */
    private static void lastOfSeveralIsNotZero() {
        for (int n = 2; n <= 9; n++) {
            String number = "83" + "80".repeat(n - 2) + "00";
            due.refuses("of " + n + " bytes", withHead(Maker.head(6, "80" + number + "210100")), FORM, 14);
            String index = "00" + "81" + "80".repeat(n - 2) + "00" + "1303";
            due.refuses("of the index", Maker.start(0) + ABC_BLOCK + Maker.close(Maker.withSum(Maker.filled(index)), 0),
                    FORM, 33);
        }
        due.refuses("a 0 goes before CUT", Maker.start(0) + ABC_BLOCK + "008100", FORM, 33);
        due.refuses("no 0", Maker.start(0) + ABC_BLOCK + "0081", CUT, 33);
        due.refuses("the number 0 in two", Maker.start(0) + Maker.close(Maker.withSum("00800000"), 0), FORM, 13);
        due.takes("the number 0 in one", Maker.start(0) + Maker.close(Maker.withSum("00000000"), 0), "");
    }

    /** "Seven bits in each": 127 has one byte, 128 has two. */
    private static void numbersAtOneAndTwoBytes() {
        for (int n : new int[] {1, 126, 127, 128, 129, 255, 256, 400}) {
            String plain = "5a".repeat(n);
            String chunks = Maker.plainChunk(1, plain);
            String head = Maker.head(3, "c0" + Maker.number(n + 4) + Maker.number(n) + "210100");
            due.takes("numbers of " + n, Maker.ofChunks(head, chunks, n), plain);
        }
        String chunks = Maker.plainChunk(1, "5a".repeat(127));
        String head = Maker.head(3, "c0" + Maker.number(131) + "7f" + "210100");
        due.takes("127 in one byte", Maker.ofChunks(head, chunks, 127), "5a".repeat(127));
        String long127 = Maker.head(3, "c0" + Maker.number(131) + "ff00" + "210100");
        due.refuses("127 in two bytes", Maker.ofChunks(long127, chunks, 127), FORM, 16);
    }

    /** "THE INDEX: a byte 0": behind the blocks every other one is a head. */
    private static void indexBegins() {
        due.takes("an index", containerOf(ABC_BLOCK, 19, 3), "616263");
        due.refuses("1 in its place", Maker.start(0) + ABC_BLOCK + "01011303" + "00000000", SUMS, 36);
    }

    /** "A VLI, how many blocks there are": "a number of the index that is another one" is FORM. */
    private static void indexTellsHowManyBlocks() {
        due.refuses("1 of none", containerOf("", 13, 0), FORM, 13);
        for (int n = 1; n <= 3; n++) {
            for (int told = 0; told <= 5; told++) {
                String index = Maker.withSum(Maker.filled("00" + Maker.number(told) + "0d00".repeat(told)));
                String container = Maker.start(0) + EMPTY_BLOCK.repeat(n) + Maker.close(index, 0);
                if (told == n) {
                    due.takes(told + " of " + n, container, "");
                } else {
                    due.refuses(told + " of " + n, container, FORM, 13 + 16 * n);
                }
            }
        }
    }

    /** "For each a VLI, its SIZE": the bytes that fill up are left out, the check is not. */
    private static void indexTellsSizes() {
        for (int sort : SORTS) {
            int check = sort == 0 ? 0 : sort == 1 ? 4 : 8;
            for (int n = 1; n <= 4; n++) {
                String plain = "a7".repeat(n);
                String block = Maker.filled(Maker.head() + Maker.plainChunk(1, plain) + "00") + Maker.check(sort, plain);
                for (int size = 14 + n; size <= 18 + n + 8; size++) {
                    String container = Maker.start(sort) + block + Maker.close(Maker.index(size, n), sort);
                    if (size == 16 + n + check) {
                        due.takes("size " + size, container, plain);
                    } else {
                        due.refuses("size " + size, container, FORM, 12 + 20 + check + 2);
                    }
                }
            }
        }
    }

    /** "And a VLI, how many bytes it gives": those of the block, not of all up to it. */
    private static void indexTellsGifts() {
        String second = Maker.filled(Maker.head() + Maker.plainChunk(1, "64") + "00");
        for (int gift = 0; gift <= 5; gift++) {
            String first = containerOf(ABC_BLOCK + second, 19, gift, 17, 1);
            String last = containerOf(ABC_BLOCK + second, 19, 3, 17, gift);
            if (gift == 3) {
                due.takes("gift " + gift, first, "61626364");
            } else {
                due.refuses("gift " + gift, first, FORM, 12 + 40 + 3);
            }
            if (gift == 1) {
                due.takes("gift " + gift, last, "61626364");
            } else {
                due.refuses("second gift " + gift, last, FORM, 12 + 40 + 5);
            }
        }
        due.refuses("the other way", containerOf(ABC_BLOCK + second, 17, 1, 19, 3), FORM, 12 + 40 + 2);
    }

    /** "Bytes 0 until the index has a multiple of four bytes": two of none, none of one, and so on. */
    private static void indexIsFilledUp() {
        String two = Maker.start(0);
        due.refuses("first of two is cut", two + "0000", CUT, 14);
        due.refuses("second of two is cut", two + "000000", CUT, 15);
        due.refuses("first of two", two + "000001", FORM, 14);
        due.refuses("second of two", two + "00000001", FORM, 15);
        due.refuses("the sum", two + "00000000", CUT, 16);
        String none = Maker.start(0) + ABC_BLOCK + "00011303";
        due.refuses("none", none, CUT, 36);
        due.refuses("none, but a byte", none + "00", CUT, 36);
        String wide = "62".repeat(120);
        String one = Maker.filled(Maker.head() + Maker.plainChunk(1, wide) + "00");
        String open = Maker.start(0) + one + "0001" + Maker.number(136) + "78";
        due.is("five bytes", Maker.number(136).length(), 4);
        for (int i = 0; i < 3; i++) {
            int place = open.length() / 2 + i;
            due.refuses("filling " + i + " of three is cut", open + "00".repeat(i), CUT, place);
            due.refuses("filling " + i + " of three", open + "00".repeat(i) + "80", FORM, place);
        }
        due.takes("three", containerOf(one, 136, 120), wide);
        String wider = "62".repeat(200);
        String six = Maker.filled(Maker.head() + Maker.plainChunk(1, wider) + "00");
        due.takes("two", containerOf(six, 216, 200), wider);
        String seven = containerOf(six + EMPTY_BLOCK.repeat(1), 216, 200, 13, 0);
        due.takes("none of eight", seven, wider);
    }

    /** CUT at the first byte of the number in which the bytes end. */
    private static void numbersOfTheIndexCut() {
        String wide = "62".repeat(200);
        String open = Maker.start(0) + Maker.filled(Maker.head() + Maker.plainChunk(1, wide) + "00");
        int place = open.length() / 2;
        due.refuses("no number", open + "00", CUT, place + 1);
        due.refuses("no size", open + "0001", CUT, place + 2);
        due.refuses("half a size", open + "0001d8", CUT, place + 2);
        due.refuses("no gift", open + "0001d801", CUT, place + 4);
        due.refuses("half a gift", open + "0001d801c8", CUT, place + 4);
        due.refuses("no filling", open + "0001d801c801", CUT, place + 6);
        due.refuses("no sum", open + "0001d801c8010000", CUT, place + 8);
    }

    /** "SUM4 of all that": each byte of it. */
    private static void sumOfTheIndex() {
        String good = containerOf(ABC_BLOCK, 19, 3);
        for (int i = 36; i < 40; i++) {
            int b = Integer.parseInt(good.substring(2 * i, 2 * i + 2), 16);
            due.refuses("byte " + i, Maker.with(good, i, b ^ 1), SUMS, 36);
            due.refuses("byte " + i, Maker.with(good, i, b ^ 128), SUMS, 36);
            due.refuses("cut at " + i, good.substring(0, 2 * i), CUT, 36);
        }
    }

    /** "THE END, one item of twelve bytes": with eleven it is CUT, whatever they are. */
    private static void endCut() {
        String good = containerOf(ABC_BLOCK, 19, 3);
        for (int n = 40; n < 52; n++) {
            due.refuses("cut at " + n, good.substring(0, 2 * n), CUT, 40);
            due.refuses("cut wrong at " + n, good.substring(0, 80) + "ff".repeat(n - 40), CUT, 40);
        }
        due.refuses("twelve wrong ones", good.substring(0, 80) + "ff".repeat(12), SUMS, 40);
    }

    /** "SUM4 of the next six": each byte of it and of them; SUMS goes before FORM. */
    private static void sumOfTheEnd() {
        String good = containerOf(ABC_BLOCK, 19, 3);
        for (int i = 40; i < 50; i++) {
            int b = Integer.parseInt(good.substring(2 * i, 2 * i + 2), 16);
            due.refuses("byte " + i, Maker.with(good, i, b ^ 1), SUMS, 40);
            due.refuses("byte " + i, Maker.with(good, i, b ^ 128), SUMS, 40);
            due.refuses("byte " + i + " and the last", Maker.with(Maker.with(good, i, b ^ 1), 51, 0), SUMS, 40);
        }
    }

    private static String endOf(String six) {
        return Maker.sumFour(six) + six + "595a";
    }

    /** "A quarter of the number of bytes of the index (with its sum) less one." */
    private static void endTellsTheQuarter() {
        for (int n : new int[] {0, 1, 3, 33}) {
            long[] records = new long[2 * n];
            for (int i = 0; i < n; i++) {
                records[2 * i] = 13;
            }
            String open = Maker.start(0) + EMPTY_BLOCK.repeat(n) + Maker.index(records);
            int right = (2 + 2 * n + 3) / 4;
            for (int told = 0; told <= right + 2; told++) {
                String container = open + endOf(Maker.lowFirst(told, 4) + "0000");
                if (told == right) {
                    due.takes("quarter " + told, container, "");
                } else {
                    due.refuses("quarter " + told, container, FORM, open.length() / 2);
                }
            }
            for (int bit = 8; bit < 32; bit++) {
                due.refuses("and bit " + bit, open + endOf(Maker.lowFirst(right + (1L << bit), 4) + "0000"), FORM,
                        open.length() / 2);
            }
        }
    }

    /** "The flags again": the very same sort. */
    private static void endHasTheFlags() {
        for (int sort : SORTS) {
            String open = Maker.start(sort) + Maker.index();
            for (int b = 0; b <= 255; b++) {
                String container = open + endOf("01000000" + String.format("00%02x", b));
                if (b == sort) {
                    due.takes("sort " + b, container, "");
                } else {
                    due.refuses("sort " + b + " of " + sort, container, FORM, 20);
                }
                if (b != 0) {
                    due.refuses("first flag " + b, open + endOf("01000000" + String.format("%02x%02x", b, sort)), FORM, 20);
                }
            }
        }
    }

    /** "0x59 0x5A": no other ones. */
    private static void endHasTwoBytes() {
        String good = containerOf("");
        for (int b = 0; b <= 255; b++) {
            if (b != 0x59) {
                due.refuses("first " + b, Maker.with(good, 30, b), FORM, 20);
            }
            if (b != 0x5A) {
                due.refuses("second " + b, Maker.with(good, 31, b), FORM, 20);
            }
        }
        due.refuses("the other way", good.substring(0, 60) + "5a59", FORM, 20);
    }

    /** "Then no byte is left": the first byte behind the end is FORM. */
    private static void noByteIsLeft() {
        String good = containerOf(ABC_BLOCK, 19, 3);
        due.takes("no byte", good, "616263");
        for (int b : new int[] {0, 1, 253, 255}) {
            due.refuses("a byte", good + String.format("%02x", b), FORM, 52);
        }
        due.refuses("two bytes", good + "0000", FORM, 52);
        due.refuses("four bytes 0", good + "00000000", FORM, 52);
        due.refuses("another container", good + good, FORM, 52);
        due.refuses("up to 640", good + "00".repeat(588), FORM, 52);
        due.refuses("a wrong end goes before", Maker.with(good, 51, 0) + "00", FORM, 40);
    }

    /** "PACKED, at most 640": a container may have them all. */
    private static void fullPacked() {
        String plain = "c3".repeat(200);
        String chunks = Maker.plainChunk(1, plain);
        String container = Maker.ofChunks(Maker.head(99, "002101"), chunks, 200);
        due.is("bytes", container.length() / 2, 640);
        due.takes("a container of 640 bytes", container, plain);
        due.refuses("one less", container.substring(0, 1278), CUT, 628);
        due.refuses("639 and one wrong", container.substring(0, 1278) + "00", FORM, 628);
    }

    /** "The first fault is told": of two, the one whose item comes first. */
    private static void faultsHaveTheirOrder() {
        String good = Maker.checked(1, ABC, "616263");
        int[] places = {51, 44, 40, 36, 32, 31, 20, 8, 6, 0};
        // the index's first byte becomes the first one of a head that is cut
        int[] faults = {FORM, SUMS, SUMS, CUT, SUMS, FORM, SUMS, SUMS, FORM, FORM};
        int[] told = {44, 44, 40, 36, 32, 31, 20, 8, 6, 0};
        String wrong = Maker.with(good, 55, 0);
        due.refuses("the last byte", wrong, FORM, 44);
        for (int i = 1; i < places.length; i++) {
            int b = Integer.parseInt(wrong.substring(2 * places[i], 2 * places[i] + 2), 16);
            wrong = Maker.with(wrong, places[i], b ^ 64);
            due.refuses("and byte " + places[i], wrong, faults[i], told[i]);
        }
    }
}
