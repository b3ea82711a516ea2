/** Promises 8 and 9: what is not a container is refused with the first fault and its place. */
public final class FaultTest {
    private static final int CUT = IntervalPacker.CUT;
    private static final int FORM = IntervalPacker.FORM;
    private static final int SUMS = IntervalPacker.SUMS;
    private static final int LONG = IntervalPacker.LONG;
    private static final int DATA = IntervalPacker.DATA;
    private static final Due due = new Due();

    private static final String ABC = Maker.plainChunk(1, "616263");
    private static final String CODED_DATA = "003098889846ddcf9b00";
    private static final String CODED = Maker.codedChunk(224, 8, "5d", CODED_DATA);
    private static final String CLOSE = Maker.close(Maker.index(19, 3), 0);

    public static void main(String[] args) {
        whereBefore();
        start();
        heads();
        numbersOfHeads();
        chunks();
        propertiesOfChunks();
        tooManyBytes();
        data();
        numbersThatDiffer();
        fillingsAndChecks();
        index();
        end();
        cutAnywhere();
        due.end();
    }

    private static void refused(String what, String container, int fault, int place) {
        due.refuses(what, container, fault, place);
    }

    private static String with(String container, int place, int b) {
        return Maker.with(container, place, b);
    }

    private static String withHead(String head, String chunks) {
        return Maker.ofChunks(head, chunks, 3);
    }

    private static String withChunks(String chunks) {
        return Maker.ofChunks(Maker.head(), chunks, 3);
    }

    private static void whereBefore() {
        IntervalPacker x = new IntervalPacker();
        due.is("where()", x.where(), -1);
        due.is("unpack()", x.unpack(), CUT);
        due.is("where()", x.where(), 0);
        due.is("pack", x.pack(0, 0, 1), 32);
        due.is("where() behind pack", x.where(), 0);
        due.is("unpack()", x.unpack(), 0);
        due.is("where()", x.where(), -1);
    }

    private static void start() {
        String good = withChunks(ABC);
        refused("five bytes", "fd377a585a", CUT, 0);
        refused("five wrong bytes", "0000000000", CUT, 0);
        for (int i = 0; i < 6; i++) {
            refused("start, byte " + i, with(good, i, 1), FORM, 0);
        }
        refused("no flags", "fd377a585a00", CUT, 6);
        refused("one flag", "fd377a585a0001", CUT, 6);
        refused("first flag", "fd377a585a00" + Maker.withSum("0100"), FORM, 6);
        for (int sort : new int[] {2, 3, 5, 10, 15, 16, 255}) {
            refused("sort " + sort, Maker.start(sort), FORM, 6);
        }
        refused("sum of flags", with(good, 11, 0x40), SUMS, 8);
        refused("cut sum of flags", Maker.start(0).substring(0, 22), CUT, 8);
        refused("no index", Maker.start(0), CUT, 12);
    }

    private static void heads() {
        refused("cut head", Maker.start(0) + Maker.head().substring(0, 22), CUT, 12);
        refused("only h", Maker.start(0) + "ff", CUT, 12);
        refused("sum of a head", with(withChunks(ABC), 20, 0), SUMS, 20);
        refused("sum goes before form", with(withChunks(ABC), 13, 1), SUMS, 20);
        refused("h = 1", withHead(Maker.head(1, "002101"), ABC), FORM, 16);
        refused("h = 1, wrong before", withHead(Maker.head(1, "002102"), ABC), FORM, 15);
        for (int flags : new int[] {1, 2, 3, 4, 32, 63, 65, 129, 255}) {
            refused("flags " + flags, withHead(Maker.head(2, String.format("%02x210100", flags)), ABC), FORM, 13);
        }
        refused("not 33", withHead(Maker.head(2, "00200100"), ABC), FORM, 14);
        refused("not 1", withHead(Maker.head(2, "00210000"), ABC), FORM, 15);
        refused("41", withHead(Maker.head(2, "00210129"), ABC), FORM, 16);
        refused("255", withHead(Maker.head(2, "002101ff"), ABC), FORM, 16);
        refused("first filling", withHead(Maker.head(2, "0021010001"), ABC), FORM, 17);
        refused("last filling", withHead(Maker.head(2, "00210100000001"), ABC), FORM, 19);
        refused("in the second block", Maker.start(0) + Maker.filled(Maker.head() + ABC + "00")
                + Maker.head(2, "00210129"), FORM, 12 + 20 + 4);
    }

    private static void numbersOfHeads() {
        refused("chunks of 0 bytes", withHead(Maker.head(2, "4000210100"), ABC), FORM, 14);
        refused("number with a last 0", withHead(Maker.head(2, "408700210100"), ABC), FORM, 14);
        refused("second with a last 0", withHead(Maker.head(3, "c0078300210100"), ABC), FORM, 15);
        refused("number into the sum", withHead(Maker.head(2, "40878080808080"), ABC), FORM, 14);
        refused("second into the sum", withHead(Maker.head(2, "c0078380808080"), ABC), FORM, 15);
        refused("33 in the sum", withHead(Maker.head(2, "40878080808001"), ABC), FORM, 20);
        refused("1 in the sum", withHead(Maker.head(2, "40878080800121"), ABC), FORM, 20);
        refused("nine and more", withHead(Maker.head(5, "40" + "80".repeat(8) + "81" + "01210100"), ABC), FORM, 14);
        refused("nine and 127", withHead(Maker.head(5, "40" + "80".repeat(8) + "7f" + "210100"), ABC), DATA, 12);
        refused("nine and 0", withHead(Maker.head(5, "40" + "80".repeat(8) + "00" + "210100"), ABC), FORM, 14);
        refused("second of nine", withHead(Maker.head(5, "80" + "ff".repeat(8) + "7f" + "210100"), ABC), DATA, 12);
    }

    private static void chunks() {
        String open = Maker.start(0) + Maker.head();
        refused("no chunk", open, CUT, 24);
        for (int c = 2; c < 224; c++) {
            refused("first c " + c, open + String.format("%02x", c), FORM, 24);
        }
        for (int c = 3; c < 128; c++) {
            refused("later c " + c, open + ABC + String.format("%02x", c), FORM, 30);
        }
        for (int c = 128; c < 192; c++) {
            refused("c without properties " + c, open + ABC + String.format("%02x", c), FORM, 30);
        }
        refused("no end of the chunks", open + ABC, CUT, 30);
        refused("emptied again", open + CODED + ABC + "80", FORM, 24 + 16 + 6);
        refused("coded again", open + CODED + "80", CUT, 24 + 16 + 1);
        refused("cut n of plain", open + "0100", CUT, 25);
        refused("cut bytes of plain", open + "0100026162", CUT, 27);
        refused("cut n of coded", open + "e000", CUT, 25);
        refused("cut m of coded", open + "e0000100", CUT, 27);
        refused("cut properties", open + "e000010005", CUT, 29);
        refused("cut data", open + CODED.substring(0, 30), CUT, 30);
    }

    private static void propertiesOfChunks() {
        String open = Maker.start(0) + Maker.head() + "e000070009";
        for (int p = 0; p < 256; p++) {
            boolean right = p < 225 && p % 9 + p / 9 % 5 <= 3;
            refused("properties " + p, open + String.format("%02x", p), right ? CUT : FORM, right ? 30 : 29);
        }
        refused("of a later chunk", Maker.start(0) + Maker.head() + ABC + "c000070009e1", FORM, 35);
    }

    private static void tooManyBytes() {
        String open = Maker.start(0) + Maker.head();
        String full = Maker.plainChunk(1, "55".repeat(400));
        refused("401 plain", open + Maker.plainChunk(1, "55".repeat(401)), LONG, 27);
        refused("400 and one", open + full + "02000061", LONG, 24 + 403 + 3);
        refused("CUT before LONG", open + full + "02000161", CUT, 24 + 403 + 3);
        refused("401 coded", open + Maker.codedChunk(224, 401, "5d", "0000000000"), LONG, 30);
        refused("LONG before DATA", open + Maker.codedChunk(255, 1, "5d", "01"), LONG, 30);
        refused("CUT before LONG", open + "ffffff00015d00", CUT, 30);
        refused("400 coded", open + Maker.codedChunk(224, 400, "5d", "01"), DATA, 30);
        refused("over two blocks", Maker.start(0) + Maker.filled(Maker.head() + full + "00") + Maker.head() + ABC,
                LONG, 12 + 416 + 12 + 3);
    }

    private static void coded(String what, int n, String data) {
        refused(what, Maker.ofChunks(Maker.head(), Maker.codedChunk(224, n, "5d", data), n), DATA, 30);
    }

    private static void data() {
        coded("a byte", 8, "00");
        coded("four bytes", 8, "00309888");
        coded("first byte", 8, "013098889846ddcf9b00");
        coded("too few", 8, "003098889846ddcf9b");
        coded("too many", 8, "003098889846ddcf9b0000");
        coded("CODE is left", 8, "003098889846ddcf9b01");
        coded("a copy behind n", 7, CODED_DATA);
        coded("more to give", 9, CODED_DATA);
        coded("a distance above P", 8, "003098889846e23a530000");
        coded("the greatest distance", 8, "0030988898473a90b2fffa1c6000");
        coded("repeated 0 at first", 2, "00cffffc00");
        coded("repeated 3 at first", 273, "00fffdffec00");
        coded("single at first", 1, "00bffffc00");
        refused("behind another one", Maker.ofChunks(Maker.head(), CODED + Maker.codedChunk(128, 1, "", "0100"), 9),
                DATA, 24 + 16 + 5);
        // what stands before an emptied dictionary is not in it: four literals, and a copy five back
        refused("behind an emptied one", Maker.ofChunks(Maker.head(),
                ABC + Maker.codedChunk(224, 8, "5d", "003098889846e23a530000"), 11), DATA, 36);
    }

    private static void numbersThatDiffer() {
        refused("chunks have less", withHead(Maker.head(2, "4008210100"), ABC), DATA, 12);
        refused("chunks have more", withHead(Maker.head(2, "4006210100"), ABC), DATA, 12);
        refused("it gives less", withHead(Maker.head(2, "8004210100"), ABC), DATA, 12);
        refused("it gives more", withHead(Maker.head(2, "8000210100"), ABC), DATA, 12);
        refused("both, second wrong", withHead(Maker.head(2, "c00702210100"), ABC), DATA, 12);
        refused("before the filling", Maker.start(0) + Maker.head(2, "4008210100") + ABC + "0001", DATA, 12);
        refused("behind the chunks", Maker.start(0) + Maker.head(2, "4008210100") + ABC, CUT, 30);
        refused("of the second block", Maker.start(0) + Maker.filled(Maker.head() + ABC + "00")
                + Maker.head(2, "4006210100") + ABC + "00", DATA, 12 + 20);
    }

    private static void fillingsAndChecks() {
        String open = Maker.start(0) + Maker.head() + ABC + "00";
        refused("no filling", open, CUT, 31);
        refused("wrong filling", open + "01" + CLOSE, FORM, 31);
        String two = Maker.start(0) + Maker.head() + Maker.plainChunk(1, "61") + "00";
        refused("first of three", two + "010000", FORM, 29);
        refused("second of three", two + "000100", FORM, 30);
        refused("third of three", two + "000001", FORM, 31);
        refused("third is cut", two + "0000", CUT, 31);
        String four = Maker.start(1) + Maker.filled(Maker.head() + ABC + "00");
        refused("SUM4", four + "c2412434", SUMS, 32);
        refused("cut SUM4", four + "c24124", CUT, 32);
        refused("SUM4 is right", four + "c2412435", CUT, 36);
        String eight = Maker.start(4) + Maker.filled(Maker.head() + ABC + "00");
        refused("SUM8", eight + "0100000000000000", SUMS, 32);
        refused("cut SUM8", eight + "01000000000000", CUT, 32);
    }

    private static void indexIs(String what, String numbers, int fault, int place) {
        String block = Maker.filled(Maker.head() + ABC + "00");
        refused(what, Maker.start(0) + block + Maker.close(Maker.withSum(Maker.filled("00" + numbers)), 0), fault, place);
    }

    private static void index() {
        indexIs("no block", "00", FORM, 33);
        indexIs("two blocks", "0213031303", FORM, 33);
        indexIs("another size", "011403", FORM, 34);
        indexIs("another gift", "011304", FORM, 35);
        indexIs("a last 0", "01930003", FORM, 34);
        indexIs("nine and 128", "01" + "93" + "80".repeat(7) + "80" + "03", FORM, 34);
        String open = Maker.start(0) + Maker.filled(Maker.head() + ABC + "00");
        refused("cut behind 0", open + "00", CUT, 33);
        refused("cut in a number", open + "000193", CUT, 34);
        refused("cut in eight", open + "0001" + "93" + "80".repeat(7), CUT, 34);
        refused("cut sum", open + "00011303" + "000000", CUT, 36);
        refused("wrong sum", open + "00011303" + "00000000", SUMS, 36);
        refused("first filling", Maker.start(0) + Maker.close(Maker.withSum("00000100"), 0), FORM, 14);
        refused("second filling", Maker.start(0) + Maker.close(Maker.withSum("00000001"), 0), FORM, 15);
        refused("cut second filling", Maker.start(0) + "000000", CUT, 15);
        refused("one block less", Maker.start(0) + Maker.close(Maker.index(19, 3), 0), FORM, 13);
    }

    private static void end() {
        String open = Maker.start(0) + Maker.filled(Maker.head() + ABC + "00");
        String index = Maker.index(19, 3);
        String end = Maker.end(index, 0);
        refused("no end", open + index, CUT, 40);
        refused("cut end", open + index + "00".repeat(11), CUT, 40);
        refused("sum of the end", open + index + with(end, 0, 1), SUMS, 40);
        refused("sum goes before form", open + index + with(with(end, 11, 0), 4, 9), SUMS, 40);
        refused("first of the last two", open + index + with(end, 10, 0x5A), FORM, 40);
        refused("second of the last two", open + index + with(end, 11, 0x59), FORM, 40);
        refused("another sort", open + index + Maker.end(index, 1), FORM, 40);
        refused("another size", open + index + Maker.end(index + "00000000", 0), FORM, 40);
        String flags = "010000000100";
        refused("first flag", open + index + Maker.sumFour(flags) + flags + "595a", FORM, 40);
        String great = "010000010000";
        refused("great size", open + index + Maker.sumFour(great) + great + "595a", FORM, 40);
        refused("one more byte", open + index + end + "00", FORM, 52);
        refused("a container more", open + index + end + open, FORM, 52);
    }

    /** Whatever is cut off a container, it is CUT, and no later than there. */
    private static void cutAnywhere() {
        IntervalPacker x = new IntervalPacker();
        Due.fillText(x, "interval interval packer packer packer");
        x.pack(4, 93, 20);
        String container = Due.hexOf(x, true);
        for (int n = 0; n < container.length() / 2; n++) {
            Due.fill(x, container.substring(0, 2 * n), true);
            due.is("unpack() of " + n, x.unpack(), CUT);
            due.is("where() of " + n, x.where() >= 0 && x.where() <= n, true);
        }
    }
}
