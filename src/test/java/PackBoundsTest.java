/**
 * The boundary cases of promise 7 and of PACKING, each sentence with a test of its own. The containers that
 * are due are told step by step, or by Words, which follows the document alone.
 */
public final class PackBoundsTest {
    private static final int FORM = IntervalPacker.FORM;
    private static final int LONG = IntervalPacker.LONG;
    private static final int LEAST = Integer.MIN_VALUE;
    private static final int GREATEST = Integer.MAX_VALUE;
    private static final Due due = new Due();

    public static void main(String[] args) {
        sortsThatAreNone();
        propertiesThatAreNone();
        piecesOfOneTo400();
        formGoesBeforeLong();
        moreThan640();
        inPlaceOfWhatWasThere();
        changesNothingElse();
        noBytes();
        oneByte();
        headWithoutNumbers();
        lastPieceHasWhatIsLeft();
        dataWithLessBytes();
        dataWithLessBytesLater();
        leastOfC();
        coderAnewBehindPlain();
        atMost273();
        atMostThePiece();
        distancesUpToP();
        leastDistance();
        leastRepeated();
        repeatedOfTwo();
        repeatedAgainstCopies();
        copiesOfThree();
        copiesOfTwoUpTo128();
        singleBytes();
        dataEndWithAShift();
        carriesInLow();
        numbersOfTheIndex();
        bytesThatFillUp();
        checksOfEachSort();
        asTheWordsSay();
        due.end();
    }

    private static IntervalPacker of(String hex) {
        IntervalPacker x = new IntervalPacker();
        Due.fill(x, hex, false);
        return x;
    }

    private static void packs(String what, String hex, int sort, int properties, int piece, String want) {
        IntervalPacker x = of(hex);
        due.is(what + ", pack()", x.pack(sort, properties, piece), want.length() / 2);
        due.is(what + ", PACKED", Due.hexOf(x, true), want);
        due.is(what + ", PLAIN", Due.hexOf(x, false), hex);
        due.is(what + ", unpack()", x.unpack(), hex.length() / 2);
        due.is(what + ", PLAIN again", Due.hexOf(x, false), hex);
    }

    /** One coded chunk of these steps. */
    private static void packsAs(String what, Steps s) {
        String hex = s.given();
        packs(what, hex, 0, 0, 400, Maker.checked(0, s.chunk(224), hex));
    }

    private static String text(String letters) {
        return Due.hexOf(letters);
    }

    /** An object of which each answer would tell a change. */
    private static IntervalPacker used() {
        IntervalPacker x = of(text("abcdabcdabcdabcdXYZ"));
        x.pack(4, 93, 400);
        x.watch(5);
        x.unpack();
        x.feed(0xEE, 1, true);
        x.unpack();
        x.feed(0x77, 1, false);
        return x;
    }

    /** "FORM, changing nothing, when sort is not 0, 1 or 4." */
    private static void sortsThatAreNone() {
        for (int sort = -300; sort <= 300; sort++) {
            IntervalPacker x = used();
            if (sort == 0 || sort == 1 || sort == 4) {
                due.is("sort " + sort, x.pack(sort, 93, 400) > 0, true);
                due.is("the flag", x.at(7, true), sort);
            } else {
                int wrong = sort;
                due.refusesCall("sort " + sort, x, () -> x.pack(wrong, 93, 400), FORM);
            }
        }
        for (int sort : new int[] {LEAST, GREATEST, LEAST + 1, LEAST + 4}) {
            IntervalPacker x = used();
            due.refusesCall("sort " + sort, x, () -> x.pack(sort, 93, 400), FORM);
        }
    }

    /** "Properties are none": (pb * 5 + lp) * 9 + lc, pb 0 .. 4, lc + lp at most 3. */
    private static void propertiesThatAreNone() {
        for (int properties = -300; properties <= 600; properties++) {
            IntervalPacker x = used();
            int lc = properties % 9;
            int lp = properties / 9 % 5;
            if (properties >= 0 && properties / 45 <= 4 && lc + lp <= 3) {
                due.is("properties " + properties, x.pack(0, properties, 400) > 0, true);
                due.is("their byte", x.at(29, true), properties);
            } else {
                int wrong = properties;
                due.refusesCall("properties " + properties, x, () -> x.pack(0, wrong, 400), FORM);
            }
        }
        for (int properties : new int[] {LEAST, GREATEST, LEAST + 93}) {
            IntervalPacker x = used();
            due.refusesCall("properties " + properties, x, () -> x.pack(0, properties, 400), FORM);
        }
    }

    /** "Or piece is not 1 .. 400." */
    private static void piecesOfOneTo400() {
        for (int piece : new int[] {1, 2, 20, 399, 400}) {
            due.is("piece " + piece, used().pack(0, 93, piece) > 0, true);
            due.is("piece " + piece + " of nothing", new IntervalPacker().pack(0, 93, piece), 32);
        }
        for (int piece : new int[] {0, -1, -400, 401, 402, 640, LEAST, GREATEST}) {
            IntervalPacker x = used();
            due.refusesCall("piece " + piece, x, () -> x.pack(0, 93, piece), FORM);
            IntervalPacker empty = new IntervalPacker();
            due.refusesCall("piece " + piece + " of nothing", empty, () -> empty.pack(0, 93, piece), FORM);
        }
    }

    /** "Else LONG": FORM goes before it. */
    private static void formGoesBeforeLong() {
        IntervalPacker x = of("55".repeat(400));
        x.feed(0x1234, 2, true);
        due.refusesCall("LONG", x, () -> x.pack(0, 93, 1), LONG);
        due.refusesCall("a wrong sort", x, () -> x.pack(2, 93, 1), FORM);
        due.refusesCall("wrong properties", x, () -> x.pack(0, 225, 1), FORM);
        due.refusesCall("a wrong piece", x, () -> x.pack(0, 93, 0), FORM);
    }

    /** "LONG, changing nothing, when there would be more than 640": pieces of one byte have four bytes each. */
    private static void moreThan640() {
        int[] most = {147, 146, 145};
        int[] sorts = {0, 1, 4};
        for (int i = 0; i < 3; i++) {
            int sort = sorts[i];
            IntervalPacker x = of("09".repeat(most[i]));
            due.is("640", x.pack(sort, 0, 1), 640);
            due.is("unpack()", x.unpack(), most[i]);
            IntervalPacker y = of("09".repeat(most[i] + 1));
            y.feed(0x123456, 3, true);
            due.refusesCall("644", y, () -> y.pack(sort, 0, 1), LONG);
            due.is("less of them", y.pack(sort, 0, 2) > 0, true);
        }
        // no piece of up to five bytes is coded, so that each size is known
        for (int n = 1; n <= 400; n += 3) {
            for (int piece : new int[] {1, 2, 3, 4, 5}) {
                int size = 12 + (n + piece - 1) / piece * 3 + n + 1;
                int index = 2 + (size >= 128 ? 2 : 1) + (n >= 128 ? 2 : 1);
                int whole = 12 + (size + 3) / 4 * 4 + (index + 3) / 4 * 4 + 4 + 12;
                IntervalPacker x = of("33".repeat(n));
                int answer = x.pack(0, 0, piece);
                due.is(n + " bytes by " + piece, answer == LONG ? whole > 640 : answer == whole && whole <= 640, true);
            }
        }
    }

    /** "PLAIN is packed into PACKED (in place of what was there)": a longer and a shorter one. */
    private static void inPlaceOfWhatWasThere() {
        String want = Words.pack(text("abc"), 1, 93, 400);
        for (int before : new int[] {0, 1, 55, 56, 57, 640}) {
            IntervalPacker x = of(text("abc"));
            for (int i = 0; i < before; i++) {
                x.feed(0xEE, 1, true);
            }
            due.is("pack()", x.pack(1, 93, 400), want.length() / 2);
            due.is("PACKED", Due.hexOf(x, true), want);
            due.is("once more", x.pack(1, 93, 400), want.length() / 2);
            due.is("PACKED", Due.hexOf(x, true), want);
        }
    }

    /** What was told of the latest unpack() stays, and PLAIN does. */
    private static void changesNothingElse() {
        IntervalPacker x = used();
        String before = Due.stateOf(x);
        due.is("pack()", x.pack(1, 93, 7) > 0, true);
        String after = Due.stateOf(x);
        due.is("PLAIN", after.substring(0, after.indexOf(" PACKED")), before.substring(0, before.indexOf(" PACKED")));
        due.is("the rest", after.substring(after.indexOf(" where")), before.substring(before.indexOf(" where")));
    }

    /** "A block if there are bytes": without one there is none. */
    private static void noBytes() {
        for (int sort : new int[] {0, 1, 4}) {
            packs("nothing", "", sort, 93, 400, Maker.start(sort) + Maker.close(Maker.index(), sort));
        }
        IntervalPacker x = of("01");
        x.cut(0, false);
        due.is("nothing is left", x.pack(0, 0, 1), 32);
    }

    /** "A block if there are bytes": one is enough. */
    private static void oneByte() {
        for (int sort : new int[] {0, 1, 4}) {
            for (int piece : new int[] {1, 2, 400}) {
                packs("one byte", "ff", sort, 93, piece, Maker.checked(sort, Maker.plainChunk(1, "ff"), "ff"));
            }
        }
    }

    /** "Without the numbers that may follow in the head, with h = 2 and the byte 0 for 0 .. 40." */
    private static void headWithoutNumbers() {
        IntervalPacker x = of("61".repeat(50));
        x.pack(0, 93, 400);
        due.is("head", Due.hexOf(x, true).substring(24, 48), "0200210100000000372797d6");
    }

    /** "PLAIN is taken in pieces of some bytes (the last one has what is left)." */
    private static void lastPieceHasWhatIsLeft() {
        String hex = text("0123456789");
        for (int piece = 1; piece <= 12; piece++) {
            StringBuilder chunks = new StringBuilder();
            for (int i = 0; i < 10; i += piece) {
                chunks.append(Maker.plainChunk(i == 0 ? 1 : 2, hex.substring(2 * i, 2 * Math.min(10, i + piece))));
            }
            packs("pieces of " + piece, hex, 0, 93, piece, Maker.checked(0, chunks.toString(), hex));
        }
        String full = "41".repeat(400);
        Steps s = new Steps(0).literal(0x41).repeated(0, 273).repeated(0, 126);
        packs("one piece", full, 0, 0, 400, Maker.checked(0, s.chunk(224), full));
        Steps t = new Steps(0).literal(0x41).repeated(0, 273).repeated(0, 125);
        packs("one piece and a byte", full, 0, 0, 399, Maker.checked(0, t.chunk(224) + t.plainChunk(2, "41"), full));
    }

    /** "A coded chunk, if its data have less bytes than it, else a plain one": seven of eight, seven of seven. */
    private static void dataWithLessBytes() {
        for (int n = 1; n <= 30; n++) {
            Steps s = new Steps(0).literal(0x61);
            if (n == 2) {
                s.single();
            } else if (n > 2) {
                s.repeated(0, n - 1);
            }
            String hex = "61".repeat(n);
            due.is("bytes of data", n < 3 || n > 9 || s.data().length() == 14, true);
            packs(n + " bytes", hex, 0, 0, 400,
                    Maker.checked(0, n <= 7 ? Maker.plainChunk(1, hex) : s.chunk(224), hex));
        }
    }

    /** The same of later pieces: five of six bytes, five of five. */
    private static void dataWithLessBytesLater() {
        String hex = "61".repeat(18);
        Steps s = new Steps(0);
        String six = s.plainChunk(1, "61".repeat(6));
        s.repeated(0, 6);
        due.is("bytes of data", s.data().length(), 10);
        six += s.chunk(192);
        six += s.repeated(0, 6).chunk(128);
        packs("pieces of six", hex, 0, 0, 6, Maker.checked(0, six, hex));
        String five = "61".repeat(5);
        packs("pieces of five", hex, 0, 0, 5, Maker.checked(0, Maker.plainChunk(1, five) + Maker.plainChunk(2, five)
                + Maker.plainChunk(2, five) + Maker.plainChunk(2, "616161"), hex));
    }

    /** Where each chunk begins with which c. */
    private static String controls(String chunks) {
        StringBuilder controls = new StringBuilder();
        int place = 0;
        while (place < chunks.length()) {
            int c = Integer.parseInt(chunks.substring(place, place + 2), 16);
            int at = place + (c < 128 ? 2 : 6);
            int size = Integer.parseInt(chunks.substring(at, at + 4), 16) + 1;
            controls.append(c).append(' ');
            place += 2 * (size + (c < 128 ? 3 : c < 192 ? 5 : 6));
        }
        return controls.toString();
    }

    /** "C is the least that is allowed with what was before, but so that the coder begins anew ...". */
    private static void leastOfC() {
        String same = "61".repeat(10);
        String[] rows = {same, text("0123456789"), same + same, same + text("0123456789"), text("0123456789") + same,
            text("0123456789") + text("ABCDEFGHIJ"), text("0123456789") + same + same,
            same + text("0123456789") + same, text("0123456789") + same + text("ABCDEFGHIJ") + same + same,
            same + text("0123456789") + text("ABCDEFGHIJ") + same + same, text("0123456789ABCDEFGHIJ") + same};
        String[] wants = {"224 ", "1 ", "224 128 ", "224 2 ", "1 192 ", "1 2 ", "1 192 128 ", "224 2 160 ",
            "1 192 2 160 128 ", "224 2 2 160 128 ", "1 2 192 "};
        for (int i = 0; i < rows.length; i++) {
            String chunks = new Words(rows[i], 93).chunks(10);
            due.is("controls", controls(chunks), wants[i]);
            packs("controls " + wants[i], rows[i], 0, 93, 10, Maker.checked(0, chunks, rows[i]));
        }
    }

    /** "So that the coder begins anew behind a plain chunk": told step by step. */
    private static void coderAnewBehindPlain() {
        Steps s = new Steps(93);
        String first = s.literal(0x61).repeated(0, 9).chunk(224);
        String second = s.plainChunk(2, text("0123456789"));
        // the distances are 1 again, and so is what the next chunk repeats
        String third = s.anew(93).copy(20, 10).chunk(160);
        String fourth = s.repeated(1, 10).chunk(128);
        String hex = s.given();
        packs("anew", hex, 0, 93, 10, Maker.checked(0, first + second + third + fourth, hex));
    }

    /** "At most f bytes may follow (in the piece, and 273)". */
    private static void atMost273() {
        packsAs("273 less one", new Steps(0).literal(0x61).repeated(0, 272));
        packsAs("273", new Steps(0).literal(0x61).repeated(0, 273));
        packsAs("273 and one", new Steps(0).literal(0x61).repeated(0, 273).single());
        packsAs("273 and two", new Steps(0).literal(0x61).repeated(0, 273).repeated(0, 2));
        packsAs("a copy of 273 less one", new Steps(0).literals("61626364").copy(4, 272));
        packsAs("a copy of 273", new Steps(0).literals("61626364").copy(4, 273));
        packsAs("a copy of 273 and one", new Steps(0).literals("61626364").copy(4, 273).single());
        packsAs("a copy of 273 and two", new Steps(0).literals("61626364").copy(4, 273).repeated(0, 2));
        packsAs("a copy of 273 and more", new Steps(0).literals("61626364").copy(4, 273).repeated(0, 123));
    }

    /** "In the piece": a match ends with it. */
    private static void atMostThePiece() {
        String hex = text("abcd".repeat(15));
        Steps s = new Steps(0);
        String chunks = s.literals("61626364").copy(4, 16).chunk(224);
        chunks += s.repeated(0, 20).chunk(128);
        chunks += s.repeated(0, 20).chunk(128);
        packs("pieces of twenty", hex, 0, 0, 20, Maker.checked(0, chunks, hex));
        Steps t = new Steps(0);
        chunks = t.literals("61626364").copy(4, 15).chunk(224);
        chunks += t.repeated(0, 19).chunk(128);
        chunks += t.repeated(0, 19).chunk(128);
        chunks += t.plainChunk(2, "626364".substring(0, 6));
        packs("pieces of nineteen", hex, 0, 0, 19, Maker.checked(0, chunks, hex));
    }

    /** "For each distance d, at most P": the first byte of all may be a match. */
    private static void distancesUpToP() {
        Steps s = new Steps(0).literals(text("abcdefghijklmnop")).copy(16, 20);
        packsAs("as far as P", s);
        packsAs("from the second on", new Steps(0).literals(text("abcdefghijklmnop")).copy(15, 20));
        // at first r0 .. r3 are above P, and 0 is no byte of the dictionary
        packsAs("the first byte is 0", new Steps(0).literal(0).repeated(0, 20));
        // the dictionary goes back over chunks
        String far = text("0123456789abcdefghij");
        Steps t = new Steps(0);
        String chunks = t.plainChunk(1, far);
        t.copy(20, 20);
        packs("as far as P in another chunk", far + far, 0, 0, 20, Maker.checked(0, chunks + t.chunk(192), far + far));
    }

    /** "D the least d with e(d) = M." */
    private static void leastDistance() {
        packsAs("six and eleven back", new Steps(0).literals(text("abcPQ")).copy(5, 3).literals(text("RST")).copy(6, 3)
                .literals(text("U0")).repeated(2, 60));
        packsAs("a longer one, farther", new Steps(0).literals(text("abcdePQ")).copy(7, 3).literals(text("RST")).copy(13, 4)
                .literals(text("U0")).repeated(2, 60));
        packsAs("a longer one, nearer", new Steps(0).literals(text("abcPQ")).copy(5, 3).literals(text("dRST")).copy(7, 4)
                .literals(text("U0")).repeated(2, 60));
    }

    /** "K the least number for which e(r(k)) is greatest." */
    private static void leastRepeated() {
        packsAs("all are 1", new Steps(0).literal(0x61).repeated(0, 40));
        int even = 0;
        for (int seed = 0; seed < 400; seed++) {
            String hex = row(seed, 2, 150);
            Words words = new Words(hex, 0);
            String chunks = words.chunks(400);
            if (words.evenRepeated > 0) {
                even++;
                packs("even ones of row " + seed, hex, 0, 0, 400, Maker.checked(0, chunks, hex));
            }
        }
        due.is("rows with even ones", even > 20, true);
    }

    /** "If e(r(k)) is 2 or more": one is too few, two are enough. */
    private static void repeatedOfTwo() {
        packsAs("two", new Steps(0).literal(0x61).repeated(0, 2).literal(0x62).repeated(0, 30));
        packsAs("one", new Steps(0).literal(0x61).single().literal(0x62).repeated(0, 30));
        // a copy of two bytes near enough goes before a repeated one of one byte
        packsAs("one against a copy of two", new Steps(0).literals(text("abXYa")).copy(5, 2).literals(text("Z0"))
                .repeated(1, 40));
    }

    /** "And 1 more than it is not below M": two against three, two against four. */
    private static void repeatedAgainstCopies() {
        Steps three = new Steps(0).literal(0x61).single().literal(0x62).literal(0x58).repeated(0, 129).literal(0x59);
        packsAs("two against three", three.literal(0x61).repeated(0, 2).literal(0x62).literal(0).repeated(0, 20));
        Steps four = new Steps(0).literal(0x61).single().literal(0x62).literal(0x64).literal(0x58).repeated(0, 129);
        packsAs("two against four", four.literal(0x59).literal(0x61).copy(136, 4).literal(0).repeated(1, 20));
    }

    /** "If M is 3 or more": from any distance. */
    private static void copiesOfThree() {
        packsAs("three, 134 back", new Steps(0).literals(text("abc")).literal(0x58).repeated(0, 130).copy(134, 3)
                .literal(0).repeated(1, 9));
        packsAs("four, 390 back", new Steps(0).literals(text("abcd")).literal(0x58).repeated(0, 273).repeated(0, 112)
                .copy(390, 4));
        packsAs("two, 134 back", new Steps(0).literals(text("abc")).literal(0x58).repeated(0, 130).literals(text("ab"))
                .literal(0).repeated(0, 9));
    }

    /** "Or 2 with D at most 128": 128 and 129. */
    private static void copiesOfTwoUpTo128() {
        packsAs("127", new Steps(0).literals(text("abX")).repeated(0, 124).copy(127, 2).literal(0x43));
        packsAs("128", new Steps(0).literals(text("abX")).repeated(0, 125).copy(128, 2).literal(0x43));
        packsAs("129", new Steps(0).literals(text("abX")).repeated(0, 126).literals(text("abC")));
        packsAs("two, 1 back", new Steps(0).literals(text("abcde")).copy(5, 3).literal(0x5A).literal(0x59)
                .repeated(1, 2).literal(0).repeated(0, 30));
    }

    /** "Else, if e(r0) is 1: SINGLE; else a LITERAL": r0 alone counts. */
    private static void singleBytes() {
        packsAs("r0", new Steps(0).literals(text("abcde")).copy(5, 3).literal(0x58).single().literal(0x5A).literal(0)
                .repeated(1, 40));
        packsAs("r1", new Steps(0).literals(text("abcde")).copy(5, 3).literals("635a").literal(0).repeated(1, 40));
        // two bytes that are 129 back, the first of them also the one r0 back
        packsAs("r0 against two far ones", new Steps(0).literals(text("ab")).literal(0x58).repeated(0, 126).literal(0x61)
                .literal(0x63).literal(0).repeated(0, 20));
    }

    /** "When the piece has been taken: SHIFT once more": with and without another RANGE by it. */
    private static void dataEndWithAShift() {
        int below = 0;
        int above = 0;
        for (int n = 0; n <= 20; n++) {
            Steps s = new Steps(0).literal(0x41).repeated(0, 40).literals(text("bcdefghijklmnopqrstuvw".substring(0, n)));
            if (s.rangeNow() < 0x1000000) {
                below++;
            } else {
                above++;
            }
            packsAs("the end of " + n, s);
        }
        due.is("RANGE is below its bound", below > 0, true);
        due.is("RANGE is not", above > 0, true);
    }

    /** LOW is one number: what it grows by goes on into the bytes before. */
    private static void carriesInLow() {
        for (int n = 1; n <= 60; n++) {
            String hex = "ff".repeat(n) + "00".repeat(60);
            packs("bytes 255, " + n, hex, 0, 3, 400, Words.pack(hex, 0, 3, 400));
        }
        for (int seed = 0; seed < 60; seed++) {
            StringBuilder hex = new StringBuilder();
            for (int i = 0; i < 12; i++) {
                hex.append(String.format("%02x", 255 - (seed * 7 + i * i) % 5));
            }
            hex.append("fe".repeat(70));
            packs("high bytes " + seed, hex.toString(), 0, 0, 400, Words.pack(hex.toString(), 0, 0, 400));
        }
    }

    /** The numbers of the index have one byte up to 127, two from 128 on. */
    private static void numbersOfTheIndex() {
        for (int n : new int[] {111, 112, 113, 126, 127, 128, 129, 250, 300}) {
            StringBuilder hex = new StringBuilder();
            for (int i = 0; i < n; i++) {
                hex.append(String.format("%02x", (i * i * 7 + i * 13 + i / 16) & 255));
            }
            for (int piece : new int[] {n, 100}) {
                String want = Words.pack(hex.toString(), 0, 93, piece);
                packs(n + " bytes", hex.toString(), 0, 93, piece, want);
            }
        }
        // a plain chunk of 111 bytes: SIZE is 12 + 3 + 111 + 1
        String hex = "";
        for (int i = 0; i < 112; i++) {
            hex += String.format("%02x", (i * 91 + 7) & 255);
        }
        String less = hex.substring(2);
        packs("a SIZE of 127", less, 0, 0, 400, Maker.ofChunks(Maker.head(), Maker.plainChunk(1, less), 111));
        packs("a SIZE of 128", hex, 0, 0, 400, Maker.ofChunks(Maker.head(), Maker.plainChunk(1, hex), 112));
    }

    /** The bytes 0 that fill up a block and the index: of each number. */
    private static void bytesThatFillUp() {
        for (int n = 1; n <= 12; n++) {
            String hex = text("qwertzuiopas").substring(0, 2 * n);
            for (int sort : new int[] {0, 1, 4}) {
                packs(n + " bytes", hex, sort, 93, 400, Maker.checked(sort, Maker.plainChunk(1, hex), hex));
            }
        }
    }

    private static void checksOfEachSort() {
        String hex = text("check ".repeat(20));
        for (int sort : new int[] {0, 1, 4}) {
            packs("sort " + sort, hex, sort, 93, 400, Words.pack(hex, sort, 93, 400));
            packs("sort " + sort + " in pieces", hex, sort, 93, 33, Words.pack(hex, sort, 93, 33));
        }
    }

    /** A row of few letters with copies in it, the same in each run. */
    private static String row(int seed, int letters, int size) {
        long state = seed * 2654435761L + 12345;
        StringBuilder hex = new StringBuilder();
        while (hex.length() < 2 * size) {
            state = state * 6364136223846793005L + 1442695040888963407L;
            int some = (int) (state >>> 40);
            int have = hex.length() / 2;
            if (have > 3 && some % 3 == 0) {
                int distance = 1 + (some >>> 2) % have;
                for (int i = 0; i < 2 + (some >>> 12) % 9; i++) {
                    int from = hex.length() - 2 * distance;
                    hex.append(hex, from, from + 2);
                }
            } else {
                hex.append(String.format("%02x", 0x61 + (some >>> 4) % letters));
            }
        }
        return hex.substring(0, 2 * size);
    }

    /** Rows of all sorts, pieces of all sizes, all properties: each container is the one that the words ask for. */
    private static void asTheWordsSay() {
        int[] sizes = {1, 2, 3, 5, 6, 10, 40, 127, 128, 200, 399, 400};
        int evenCopies = 0;
        for (int seed = 0; seed < 700; seed++) {
            int lc = seed % 4;
            int lp = seed / 4 % (4 - lc);
            int properties = (seed % 5 * 5 + lp) * 9 + lc;
            int piece = seed % 3 == 0 ? 400 : 1 + seed * 13 % 90;
            int sort = new int[] {0, 1, 4}[seed % 3];
            String hex = row(seed, 1 + seed % 11, sizes[seed % 12]);
            String want = Words.pack(hex, sort, properties, piece);
            IntervalPacker x = of(hex);
            int answer = x.pack(sort, properties, piece);
            due.is("row " + seed, answer, want.length() > 1280 ? LONG : want.length() / 2);
            due.is("PACKED of row " + seed, Due.hexOf(x, true), want.length() > 1280 ? "" : want);
            Words words = new Words(hex, properties);
            words.chunks(piece);
            evenCopies += words.evenCopies;
        }
        due.is("even distances", evenCopies > 100, true);
    }
}
