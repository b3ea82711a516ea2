/** Promise 7: pack. The containers that are due were also read by another program for this format. */
public final class PackTest {
    private static final Due due = new Due();
    private static final String TEXT = "Packs bytes by matches and a coder of intervals; "
            + "packs bytes by matches, unpacks bytes by matches.";

    public static void main(String[] args) {
        emptyRow();
        wholeContainers();
        controlsOfChunks();
        repeatedBeforeCopy();
        nearAndFarPairs();
        wrongArguments();
        tooLong();
        exactlyFull();
        due.end();
    }

    private static void packs(String plainHex, int sort, int properties, int piece, String want) {
        IntervalPacker x = new IntervalPacker();
        Due.fill(x, plainHex, false);
        x.feed(0x1234, 2, true);
        String call = "pack(" + sort + ", " + properties + ", " + piece + ")";
        due.is(call, x.pack(sort, properties, piece), want.length() / 2);
        due.is("PACKED behind " + call, Due.hexOf(x, true), want);
        due.is("PLAIN behind " + call, Due.hexOf(x, false), plainHex);
    }

    private static void emptyRow() {
        for (int sort : new int[] {0, 1, 4}) {
            packs("", sort, 93, 1, Maker.start(sort) + Maker.close(Maker.index(), sort));
        }
    }

    private static void wholeContainers() {
        String text = Due.hexOf(TEXT);
        packs(text, 1, 93, 400, "fd377a585a0000016922de360200210100000000372797d6e00061003d5d0028184866dca2f806f6"
                + "8096096a08f11f33e5e08e048577c44ab512d69d3dd00e18d04a503b396a3e04048c4a70c29013a68a7802d0d1d043345f"
                + "bc7c0000000000bb28aff7000155624e1cf6449042990d010000000001595a");
        packs(text, 4, 0, 30, "fd377a585a000004e6d6b4460200210100000000372797d601001d5061636b73206279746573206279"
                + "206d61746368657320616e6420612063c0001d001a0000379a289d0eee657681390eac0426665045df0f04a831e0c70000"
                + "80001d000b00d9c6fd257e8dd9ecc2c000800007000600d3dc41c90000004e9d804c3382750100017462ad0969c81fb6f3"
                + "7d010000000004595a");
        packs(text, 0, 101, 12, "fd377a585a000000ff12d9410200210100000000372797d601000b5061636b732062797465732002"
                + "000b6279206d617463686573206102000b6e64206120636f646572206f02000b6620696e74657276616c733bc0000b0008"
                + "6500101c24160000000080000b000600d88afc00000080000b00090010a2417292bac9600080000b000500d6fb09400002"
                + "0001732e0000000183016200000093a43ef7a8000afc020000000000595a");
        // of two matches of three bytes, six and eleven back, the nearer one
        packs(Due.hexOf("abcPQabcRSTabcU") + "00".repeat(40), 1, 93, 400, "fd377a585a0000016922de3602002101000000"
                + "00372797d6e0003600145d0030988896899ece62e955ce36b9d9c4f606d400000089bde28100012c378a7b0aa19042990d"
                + "010000000001595a");
    }

    /** Where each chunk begins with which c. */
    private static String controls(IntervalPacker x) {
        StringBuilder controls = new StringBuilder();
        int place = 24;
        for (int i = 0; i < 400 && x.at(place, true) > 0; i++) {
            int c = x.at(place, true);
            controls.append(c).append(' ');
            int size = x.at(place + (c < 128 ? 1 : 3), true) * 256 + x.at(place + (c < 128 ? 2 : 4), true) + 1;
            place += size + (c < 128 ? 3 : c < 192 ? 5 : 6);
        }
        return controls.append(x.at(place, true)).toString();
    }

    private static void controlsOfChunks() {
        IntervalPacker x = new IntervalPacker();
        String same = "aaaaaaaaaa";
        String other = "klmnopqrst";
        Due.fillText(x, "abcdefghij" + other + same + same + "0123456789" + same + same + "zy");
        x.pack(0, 93, 10);
        due.is("controls", controls(x), "1 2 192 128 2 160 128 2 0");
        Due.fillText(x, same + same + other + same);
        x.pack(0, 93, 10);
        due.is("controls", controls(x), "224 128 2 160 0");
        // no data have less than five bytes
        due.is("pack by 5", x.pack(0, 93, 5), 12 + 12 + 8 * 3 + 40 + 1 + 3 + 8 + 12);
        due.is("controls", controls(x), "1 2 2 2 2 2 2 2 0");
    }

    /** How the steps are chosen is told by the counts when it is unpacked. */
    private static void steps(String plainHex, String want) {
        IntervalPacker x = new IntervalPacker();
        Due.fill(x, plainHex, false);
        x.pack(0, 93, 400);
        x.cut(0, false);
        due.is("unpack of " + plainHex, x.unpack(), plainHex.length() / 2);
        due.is("plain", Due.hexOf(x, false), plainHex);
        String counts = Due.countsOf(x);
        due.is("steps of " + plainHex, counts.substring(counts.indexOf(' ') + 1), want);
    }

    private static void repeatedBeforeCopy() {
        String zeros = "00".repeat(40);
        steps(zeros, "1 0 0 1 0 0 0 1 0 1");
        steps("61".repeat(400), "1 0 0 2 0 0 0 1 0 1");
        // two bytes one back against three and four that are far back
        String between = "58".repeat(130);
        steps(Due.hexOf("aab") + between + Due.hexOf("Yaaab") + zeros, "7 0 1 3 0 0 0 1 0 1");
        steps(Due.hexOf("aabd") + between + Due.hexOf("Yaaabd") + zeros, "7 1 1 1 1 0 0 1 0 1");
        steps(Due.hexOf("abcdef1bcdegabcdef2bcdeg") + zeros, "10 2 0 1 0 1 0 1 0 1");
        // behind a copy each byte that stands alone is the one r0 back
        steps(zeros + Due.hexOf("abcdefghabcdXfYh") + zeros, "11 2 2 1 0 0 0 1 0 1");
    }

    private static void nearAndFarPairs() {
        String zeros = "00".repeat(40);
        String near = Due.hexOf("ab") + "58".repeat(126) + Due.hexOf("abC");
        String far = Due.hexOf("ab") + "58".repeat(127) + Due.hexOf("abC");
        String three = Due.hexOf("abc") + "58".repeat(127) + Due.hexOf("abcC");
        steps(zeros + near + zeros, "5 2 0 2 0 0 0 1 0 1");
        steps(zeros + far + zeros, "7 1 0 2 0 0 0 1 0 1");
        steps(zeros + three + zeros, "6 2 0 2 0 0 0 1 0 1");
    }

    private static void wrongArguments() {
        IntervalPacker x = new IntervalPacker();
        Due.fillText(x, TEXT);
        due.is("pack(1, 93, 400)", x.pack(1, 93, 400), 120);
        String before = Due.hexOf(x, true);
        for (int sort : new int[] {-1, 2, 3, 5, 10, Integer.MIN_VALUE, Integer.MAX_VALUE}) {
            due.is("sort " + sort, x.pack(sort, 93, 400), IntervalPacker.FORM);
        }
        for (int properties : new int[] {-1, 4, 8, 3 + 9, 2 + 18, 1 + 27, 36, 225, 256, Integer.MIN_VALUE}) {
            due.is("properties " + properties, x.pack(1, properties, 400), IntervalPacker.FORM);
        }
        for (int piece : new int[] {0, -1, 401, Integer.MIN_VALUE, Integer.MAX_VALUE}) {
            due.is("piece " + piece, x.pack(1, 93, piece), IntervalPacker.FORM);
        }
        due.is("PACKED then", Due.hexOf(x, true), before);
        for (int properties : new int[] {0, 3, 2 + 9, 1 + 18, 27, 45, 180, 180 + 27}) {
            due.is("properties " + properties + " are some", x.pack(1, properties, 400) > 0, true);
        }
    }

    private static void tooLong() {
        IntervalPacker x = new IntervalPacker();
        x.feed(0x55, 1, false);
        x.copy(1, 299);
        x.copy(1, 100);
        x.feed(0xABCD, 2, true);
        due.is("400 pieces", x.pack(4, 93, 1), IntervalPacker.LONG);
        due.is("FORM goes before LONG", x.pack(2, 93, 1), IntervalPacker.FORM);
        due.is("PACKED then", Due.hexOf(x, true), "abcd");
        due.is("PLAIN then", x.at(399, false), 0x55);
        due.is("fewer pieces", x.pack(4, 93, 400) > 0, true);
    }

    private static void exactlyFull() {
        IntervalPacker x = new IntervalPacker();
        // pieces of one byte have four bytes each; beside them 12 + 12 + 1 + 3 bytes, an index of 12, an end of 12
        x.feed(1, 1, false);
        x.copy(1, 146);
        due.is("147 pieces", x.pack(0, 0, 1), 640);
        due.is("unpack()", x.unpack(), 147);
        due.is("146 pieces with a sum", x.cut(146, false), 1);
        due.is("pack(1, 0, 1)", x.pack(1, 0, 1), 640);
        x.copy(1, 1);
        due.is("one more", x.pack(1, 0, 1), IntervalPacker.LONG);
        due.is("PACKED stays", x.unpack(), 146);
    }
}
