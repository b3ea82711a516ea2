/**
 * The boundary cases of a CHUNK and of UNPACKING it, each sentence with a test of its own: what is just
 * taken, what is just not, the fault and its place, and that PLAIN stays.
 */
public final class ChunkBoundsTest {
    private static final int CUT = IntervalPacker.CUT;
    private static final int FORM = IntervalPacker.FORM;
    private static final int LONG = IntervalPacker.LONG;
    private static final int DATA = IntervalPacker.DATA;
    private static final Due due = new Due();

    private static final String OPEN = Maker.start(0) + Maker.head();
    private static final String ABC = Maker.plainChunk(1, "616263");

    public static void main(String[] args) {
        noChunk();
        firstChunk();
        laterChunks();
        firstChunkOfEachBlock();
        endOfTheChunks();
        plainOfOneTo400();
        plainCut();
        plainNumberHasTheHighestFirst();
        codedOfOneTo400();
        codedCut();
        codedNumberHasFiveBitsInFront();
        dataOfOneByteTo65536();
        dataNumberHasTheHighestFirst();
        moreThan400();
        moreThan400InSeveralBlocks();
        cutThenLongThenData();
        propertiesFrom192On();
        propertiesThatAreNone();
        propertiesBehindAnEmptiedDictionary();
        emptiedByOneAnd224();
        keptByTwoAnd128To223();
        coderAnewFrom160On();
        propertiesAreKept();
        pbUpToFour();
        due.end();
    }

    private static String takes(String what, String chunks, String plain) {
        due.takes(what, Maker.ofChunks(Maker.head(), chunks, plain.length() / 2), plain);
        return chunks;
    }

    /** "A CHUNK begins with a byte c": CUT where none is. */
    private static void noChunk() {
        due.refuses("no c", OPEN, CUT, 24);
        due.refuses("no second c", OPEN + ABC, CUT, 30);
    }

    /** "The first chunk of a block does so, if it is not the end": 0, 1, and 224 or more. */
    private static void firstChunk() {
        for (int c = 0; c <= 255; c++) {
            String container = OPEN + String.format("%02x", c);
            if (c == 0 || c == 1 || c >= 224) {
                due.refuses("first c " + c + " is right", container, CUT, 25);
            } else {
                due.refuses("first c " + c, container, FORM, 24);
                due.refuses("first c " + c + " before CUT", container + "00", FORM, 24);
            }
        }
    }

    /** "Other c are wrong": 3 .. 127 everywhere. */
    private static void laterChunks() {
        String coded = new Steps(93).literals("61626364").chunk(224);
        int place = 24 + coded.length() / 2;
        for (int c = 0; c <= 255; c++) {
            boolean isWrong = c > 2 && c < 128;
            String container = OPEN + coded + String.format("%02x", c);
            due.refuses("c " + c + " behind a coded one", container, isWrong ? FORM : CUT, isWrong ? place : place + 1);
        }
    }

    /** "The first chunk of a block does so": in a second block too, whatever the first one had. */
    private static void firstChunkOfEachBlock() {
        Steps s = new Steps(93);
        String block = Maker.filled(Maker.head() + s.literals("61626364").chunk(224) + "00");
        String open = Maker.start(0) + block + Maker.head();
        int place = open.length() / 2;
        for (int c : new int[] {2, 3, 127, 128, 159, 160, 191, 192, 223}) {
            due.refuses("c " + c, open + String.format("%02x", c), FORM, place);
        }
        for (int c : new int[] {0, 1, 224, 255}) {
            due.refuses("c " + c, open + String.format("%02x", c), CUT, place + 1);
        }
    }

    /** "0: the END of the chunks": at first, behind a plain one, behind a coded one. */
    private static void endOfTheChunks() {
        takes("no chunk", "", "");
        takes("a plain one", ABC, "616263");
        takes("a coded one", new Steps(93).literals("6162").chunk(224), "6162");
        due.refuses("c behind the end", OPEN + "00" + "01", FORM, 25);
    }

    /** "Two bytes, n - 1 with the highest first, and n bytes": from one byte on. */
    private static void plainOfOneTo400() {
        for (int n : new int[] {1, 2, 255, 256, 257, 399, 400}) {
            String plain = Due.hexOf("q" + "z".repeat(n - 1));
            takes("a plain chunk of " + n, Maker.plainChunk(1, plain), plain);
        }
        String more = "7a".repeat(401);
        due.refuses("a plain chunk of 401", OPEN + Maker.plainChunk(1, more), LONG, 27);
    }

    /** The two bytes of n - 1 are an item, the n bytes are one: CUT at the first byte of it. */
    private static void plainCut() {
        String whole = Maker.plainChunk(1, "61".repeat(20));
        for (int n = 1; n <= 23; n++) {
            due.refuses("cut behind " + n, OPEN + whole.substring(0, 2 * n), CUT, n < 3 ? 25 : n < 23 ? 27 : 47);
        }
    }

    /** "With the highest first". */
    private static void plainNumberHasTheHighestFirst() {
        takes("256 and 1", "010100" + "61".repeat(257), "61".repeat(257));
        takes("255 and 1", "0100ff" + "61".repeat(256), "61".repeat(256));
        due.refuses("65536", OPEN + "01ffff" + "61".repeat(600), CUT, 27);
        due.refuses("256 less one byte", OPEN + "0100ff" + "61".repeat(255), CUT, 27);
        due.refuses("257 less one byte", OPEN + "010100" + "61".repeat(256), CUT, 27);
    }

    /** "By which it gives n bytes": from one byte on, and at most 400. */
    private static void codedOfOneTo400() {
        for (int n : new int[] {1, 2, 255, 256, 257, 399, 400}) {
            Steps s = new Steps(93);
            s.literal(0x71);
            for (int left = n - 1; left > 0; left -= Math.min(left, 200)) {
                if (left == 1) {
                    s.single();
                } else {
                    s.repeated(0, Math.min(left, 200));
                }
            }
            String plain = s.given();
            due.is("bytes", plain.length() / 2, n);
            takes("a coded chunk of " + n, s.chunk(224), plain);
        }
        Steps s = new Steps(93);
        s.literal(0x71).repeated(0, 200).repeated(0, 200);
        due.refuses("a coded chunk of 401", OPEN + s.chunk(224), LONG, 30);
    }

    /** The items of a coded chunk are c, n - 1, m - 1, the properties, the data. */
    private static void codedCut() {
        String whole = new Steps(93).literals("61626364").chunk(224);
        int size = whole.length() / 2;
        for (int n = 1; n < size; n++) {
            int place = n < 3 ? 25 : n < 5 ? 27 : n < 6 ? 29 : 30;
            due.refuses("cut behind " + n, OPEN + whole.substring(0, 2 * n), CUT, place);
        }
        due.refuses("whole", OPEN + whole, CUT, 24 + size);
        Steps s = new Steps(93);
        String first = s.literals("6162").chunk(224);
        String second = s.literals("6364").chunk(128);
        int start = 24 + first.length() / 2;
        for (int n = 1; n < second.length() / 2; n++) {
            int place = start + (n < 3 ? 1 : n < 5 ? 3 : 5);
            due.refuses("the second cut behind " + n, OPEN + first + second.substring(0, 2 * n), CUT, place);
        }
    }

    /** "With the lowest five bits of c in front of them a number, highest first: n - 1." */
    private static void codedNumberHasFiveBitsInFront() {
        Steps s = new Steps(93);
        s.literal(0x71).repeated(0, 200);
        String data = s.data();
        takes("224", Maker.codedChunk(224, 201, "5d", data), s.given());
        for (int c = 225; c <= 255; c++) {
            due.refuses("c " + c, OPEN + Maker.codedChunk(c, 201, "5d", data), LONG, 30);
        }
        due.refuses("257 where 201 are", OPEN + "e00100" + String.format("%04x", data.length() / 2 - 1) + "5d" + data,
                DATA, 30);
        String first = new Steps(93).literals("61626364").chunk(224);
        int place = 24 + first.length() / 2;
        for (int c : new int[] {129, 159, 161, 191}) {
            due.refuses("c " + c, OPEN + first + Maker.codedChunk(c, 4, "", "0000000000"), LONG, place + 5);
        }
        for (int c : new int[] {193, 223, 225, 255}) {
            due.refuses("c " + c, OPEN + first + Maker.codedChunk(c, 4, "5d", "0000000000"), LONG, place + 6);
        }
    }

    /** "Two bytes, m - 1, highest first": five bytes are the least that can be data. */
    private static void dataOfOneByteTo65536() {
        Steps s = new Steps(93);
        String open = OPEN + s.plainChunk(1, "61");
        s.single();
        due.is("data of five bytes", s.data().length(), 10);
        String five = s.data();
        String chunks = Maker.plainChunk(1, "61") + s.chunk(192);
        takes("five bytes", chunks, "6161");
        for (int m = 1; m < 5; m++) {
            due.refuses(m + " bytes", open + Maker.codedChunk(192, 1, "5d", five.substring(0, 2 * m)), DATA, 34);
        }
        due.refuses("65536 bytes", open + "c00000" + "ffff" + "5d" + "00".repeat(500), CUT, 34);
    }

    /** "M - 1, highest first": from 257 on the first byte is not 0. */
    private static void dataNumberHasTheHighestFirst() {
        boolean[] seen = new boolean[400];
        for (int n = 200; n < 260; n++) {
            Steps s = new Steps(0);
            for (int i = 0; i < n; i++) {
                s.literal((i * 167 + i * i * 29) & 255);
            }
            int m = s.data().length() / 2;
            seen[m] = true;
            takes("data of " + m, s.chunk(224), s.given());
        }
        due.is("data of 256 bytes", seen[256], true);
        due.is("data of 257 bytes", seen[257], true);
    }

    /** "LONG, with the bytes of a chunk there would be more than 400": 400 are taken, 401 are not. */
    private static void moreThan400() {
        for (int before : new int[] {1, 200, 398, 399}) {
            Steps s = new Steps(93);
            String first = s.plainChunk(1, "61".repeat(before));
            int place = 24 + first.length() / 2;
            String rest = "62".repeat(400 - before);
            takes("400 plain", first + Maker.plainChunk(2, rest), "61".repeat(before) + rest);
            due.refuses("401 plain", OPEN + first + Maker.plainChunk(2, rest + "62"), LONG, place + 3);
            for (int left = 400 - before; left > 0; left -= Math.min(left, 273)) {
                if (left == 1) {
                    s.single();
                } else {
                    s.repeated(0, Math.min(left, 273));
                }
            }
            String fits = s.chunk(192);
            takes("400 coded", first + fits, "61".repeat(400));
            String data = fits.substring(12);
            due.refuses("401 coded", OPEN + first + Maker.codedChunk(192, 401 - before, "5d", data), LONG, place + 6);
        }
        String full = Maker.plainChunk(1, "61".repeat(400));
        takes("400 and the end", full, "61".repeat(400));
        for (int c : new int[] {1, 2}) {
            due.refuses("400 and one", OPEN + full + Maker.plainChunk(c, "62"), LONG, 24 + 403 + 3);
        }
        due.refuses("400 and one coded", OPEN + full + Maker.codedChunk(224, 1, "5d", "0000000000"), LONG, 24 + 403 + 6);
    }

    /** "There would be more than 400": in all blocks together. */
    private static void moreThan400InSeveralBlocks() {
        String first = Maker.filled(Maker.head() + Maker.plainChunk(1, "61".repeat(397)) + "00");
        String fits = Maker.filled(Maker.head() + ABC + "00");
        String container = Maker.start(0) + first + fits + Maker.close(Maker.index(413, 397, 19, 3), 0);
        due.takes("400", container, "61".repeat(397) + "616263");
        int place = 12 + first.length() / 2 + 12 + 3;
        due.refuses("401", Maker.start(0) + first + Maker.head() + Maker.plainChunk(1, "61626364"), LONG, place);
        String empty = Maker.filled(Maker.head() + "00");
        String full = Maker.filled(Maker.head() + Maker.plainChunk(1, "61".repeat(400)) + "00");
        due.takes("400 and a block that gives nothing",
                Maker.start(0) + full + empty + Maker.close(Maker.index(416, 400, 13, 0), 0), "61".repeat(400));
    }

    /** "Of a chunk's bytes or data CUT comes first, then LONG, then DATA." */
    private static void cutThenLongThenData() {
        String wrong = "0100000000";
        due.refuses("CUT", OPEN + "e00190" + "0005" + "5d" + wrong, CUT, 30);
        due.refuses("LONG", OPEN + "e00190" + "0004" + "5d" + wrong, LONG, 30);
        due.refuses("DATA", OPEN + "e0018f" + "0004" + "5d" + wrong, DATA, 30);
        String bytes = "61".repeat(401);
        due.refuses("CUT of plain", OPEN + "010191" + bytes, CUT, 27);
        due.refuses("LONG of plain", OPEN + "010190" + bytes, LONG, 27);
        due.refuses("properties go before", OPEN + "e00190" + "0005" + "ff" + wrong, FORM, 29);
    }

    /** "If c is 192 or more a byte of PROPERTIES": with 191 and below there is none. */
    private static void propertiesFrom192On() {
        for (int c : new int[] {128, 160, 192, 224}) {
            Steps s = new Steps(93);
            String first = s.literals("61626364").chunk(224);
            if (c >= 160) {
                s.anew(93);
            }
            if (c == 224) {
                s.emptied();
            }
            String second = s.literals("6566").chunk(c);
            due.is("size", second.length() / 2 - (c < 192 ? 5 : 6), Integer.parseInt(second.substring(6, 10), 16) + 1);
            takes("c " + c, first + second, s.given());
        }
        String first = new Steps(93).literals("61626364").chunk(224);
        int place = 24 + first.length() / 2;
        due.refuses("191", OPEN + first + "bf00010000" + "ff", LONG, place + 5);
        due.refuses("192", OPEN + first + "c000010000" + "ff", FORM, place + 5);
    }

    /** "PROPERTIES are (pb * 5 + lp) * 9 + lc; pb is 0 .. 4, and lc + lp at most 3." */
    private static void propertiesThatAreNone() {
        for (int properties = 0; properties <= 255; properties++) {
            int lc = properties % 9;
            int lp = properties / 9 % 5;
            int pb = properties / 45;
            boolean right = pb <= 4 && lc + lp <= 3;
            String hex = String.format("%02x", properties);
            if (right) {
                Steps s = new Steps(properties);
                takes("properties " + properties, s.literals("e1e2e100e1e2").copy(5, 4).literal(255).chunk(224), s.given());
            } else {
                due.refuses("properties " + properties, OPEN + "e000000004" + hex + "0000000000", FORM, 29);
                String first = new Steps(93).literals("61626364").chunk(224);
                int place = 24 + first.length() / 2;
                due.refuses("later ones " + properties, OPEN + first + "c000000004" + hex, FORM, place + 5);
            }
        }
    }

    /** "Behind such a chunk the first coded one has properties (c of 192 or more; it may be that chunk itself)." */
    private static void propertiesBehindAnEmptiedDictionary() {
        String coded = new Steps(93).literals("61626364").chunk(224);
        String more = Maker.plainChunk(2, "64");
        String[] before = {ABC, ABC + more, coded + ABC, coded + ABC + more, coded + ABC + more + ABC};
        for (String chunks : before) {
            int place = 24 + chunks.length() / 2;
            for (int c = 128; c <= 255; c++) {
                due.refuses("c " + c + " behind a plain one", OPEN + chunks + String.format("%02x", c),
                        c < 192 ? FORM : CUT, c < 192 ? place : place + 1);
            }
        }
        String[] enough = {coded, coded + more, coded + more + more};
        for (String chunks : enough) {
            int place = 24 + chunks.length() / 2;
            for (int c = 128; c <= 255; c++) {
                due.refuses("c " + c + " behind a coded one", OPEN + chunks + String.format("%02x", c), CUT, place + 1);
            }
        }
        Steps s = new Steps(0);
        String plain = s.plainChunk(1, "616263");
        String first = s.literals("6465").chunk(192);
        String second = s.literals("6667").chunk(128);
        takes("once is enough", plain + first + second, s.given());
    }

    /** "1, and 224 or more, make the DICTIONARY empty": P is 0 then, and nothing before it is in it. */
    private static void emptiedByOneAnd224() {
        Steps s = new Steps(93);
        String before = s.plainChunk(1, "6162636465");
        String again = s.plainChunk(1, "666768");
        s.anew(93).copy(3, 4);
        takes("as far as P behind 1", before + again + s.chunk(192), s.given());
        Steps t = new Steps(93);
        t.plainChunk(1, "6162636465");
        t.plainChunk(1, "666768");
        t.anew(93).copy(4, 4);
        due.refuses("farther behind 1", OPEN + before + again + t.chunk(192), DATA, 24 + 8 + 6 + 6);
        Steps u = new Steps(93);
        u.plainChunk(1, "6162636465");
        u.emptied().literal(0x66).copy(1, 3);
        takes("as far as P behind 224", before + u.chunk(224), u.given());
        Steps v = new Steps(93);
        v.plainChunk(1, "6162636465");
        v.emptied().literal(0x66).copy(2, 3);
        due.refuses("farther behind 224", OPEN + before + v.chunk(224), DATA, 24 + 8 + 6);
        Steps w = new Steps(93);
        w.plainChunk(1, "6162636465");
        w.emptied().single();
        due.refuses("nothing is in it", OPEN + before + w.chunk(224), DATA, 24 + 8 + 6);
        lowestBitsOfAnEmptiedOne();
    }

    /** P begins at 0 again, and with it the places of literals and of matches; the last byte counts 0 then. */
    private static void lowestBitsOfAnEmptiedOne() {
        for (int properties : new int[] {3, 27, 180, 11, 19 + 90}) {
            Steps s = new Steps(properties);
            String before = s.plainChunk(1, "e1f2e3");
            s.anew(properties).emptied();
            s.literals("1f00ff01e0").copy(5, 5).literals("1fe0").copy(7, 6).literals("00ff");
            takes("properties " + properties, before + s.chunk(224), s.given());
        }
    }

    /** "Which is all bytes that the block gave since then": of plain and coded chunks. */
    private static void keptByTwoAnd128To223() {
        for (int c : new int[] {128, 160, 192}) {
            Steps s = new Steps(93);
            String chunks = s.literals("61626364").chunk(224) + s.plainChunk(2, "6566");
            if (c >= 160) {
                s.anew(93);
            }
            s.copy(6, 3);
            chunks += s.chunk(c);
            takes("as far as P, c " + c, chunks, s.given());
            Steps t = new Steps(93);
            chunks = t.literals("61626364").chunk(224) + t.plainChunk(2, "6566");
            if (c >= 160) {
                t.anew(93);
            }
            t.copy(7, 3);
            int place = 24 + chunks.length() / 2 + (c < 192 ? 5 : 6);
            due.refuses("farther, c " + c, OPEN + chunks + t.chunk(c), DATA, place);
        }
    }

    /** "The CODER begins anew with a c of 160 or more": with 128 it goes on as it was. */
    private static void coderAnewFrom160On() {
        for (int c : new int[] {128, 160, 192, 224}) {
            for (boolean anew : new boolean[] {false, true}) {
                Steps s = new Steps(93);
                String first = s.literals("6162636461").copy(4, 6).copy(3, 2).chunk(224);
                if (c == 224) {
                    s.emptied();
                }
                if (anew) {
                    s.anew(93);
                }
                String plain = s.given();
                s.literals("616161").repeated(0, 2);
                String container = Maker.ofChunks(Maker.head(), first + s.chunk(c), plain.length() / 2 + 5);
                if (anew == c >= 160) {
                    due.takes("c " + c, container, s.given());
                } else {
                    IntervalPacker x = new IntervalPacker();
                    Due.fill(x, container, true);
                    int answer = x.unpack();
                    boolean isOther = answer == DATA || !Due.hexOf(x, false).equals(s.given());
                    due.is("c " + c + " with other probabilities", isOther, true);
                }
            }
        }
    }

    /** "(Before that, with its properties)": other ones from 192 on, the same ones with 160. */
    private static void propertiesAreKept() {
        for (int other : new int[] {0, 3, 27, 180, 207}) {
            for (int c : new int[] {192, 224}) {
                Steps s = new Steps(93);
                String chunks = s.literals("6162e36461").copy(4, 6).chunk(224);
                if (c == 224) {
                    s.emptied();
                }
                s.anew(other).literals("e161e2e061").copy(3, 5).literals("610061");
                chunks += s.chunk(c);
                s.anew(other).literals("e161e2e061").copy(2, 5).literals("610061");
                chunks += s.chunk(160);
                s.literals("61e1").copy(9, 9).literals("00");
                chunks += s.chunk(128);
                takes("properties " + other + " with c " + c, chunks, s.given());
            }
        }
    }

    /** "Pb is 0 .. 4": with each of them the lowest bits of P tell the probabilities. */
    private static void pbUpToFour() {
        for (int pb = 0; pb <= 4; pb++) {
            Steps s = new Steps(45 * pb);
            for (int i = 0; i < 40; i++) {
                s.literal(i % 3 == 0 ? 255 : 0);
                if (i % 5 == 4) {
                    s.copy(1 + i % 4, 2 + i % 4);
                }
            }
            takes("pb " + pb, s.chunk(224), s.given());
        }
    }
}
