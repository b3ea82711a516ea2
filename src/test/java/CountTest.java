/** Promise 13: count. */
public final class CountTest {
    private static final Due due = new Due();
    private static final String ABC = Maker.plainChunk(1, "616263");
    private static final String CODED = Maker.codedChunk(224, 8, "5d", "003098889846ddcf9b00");
    private static final String NOTHING = "0 0 0 0 0 0 0 0 0 0 0";

    public static void main(String[] args) {
        wrongWhich();
        onlyTheLatest();
        faultsInData();
        faultsOfChunks();
        faultsOfBlocks();
        due.end();
    }

    private static void counts(String what, String container, int answer, String want) {
        IntervalPacker x = new IntervalPacker();
        Due.fill(x, container, true);
        due.is(what + ", unpack()", x.unpack(), answer);
        due.is(what + ", counts", Due.countsOf(x), want);
    }

    private static void wrongWhich() {
        IntervalPacker x = new IntervalPacker();
        for (int which : new int[] {-1, 11, 12, Integer.MIN_VALUE, Integer.MAX_VALUE}) {
            due.is("count(" + which + ")", x.count(which), -1);
        }
        due.is("counts", Due.countsOf(x), NOTHING);
    }

    private static void onlyTheLatest() {
        IntervalPacker x = new IntervalPacker();
        Due.fill(x, Maker.ofChunks(Maker.head(), CODED + ABC, 11), true);
        for (int i = 0; i < 3; i++) {
            due.is("unpack()", x.unpack(), 11);
            due.is("counts", Due.countsOf(x), "48 4 1 0 0 0 0 0 1 1 1");
        }
        due.is("pack", x.pack(0, 0, 1) > 0, true);
        due.is("counts behind pack", Due.countsOf(x), "48 4 1 0 0 0 0 0 1 1 1");
        x.cut(0, true);
        x.unpack();
        due.is("counts of nothing", Due.countsOf(x), NOTHING);
    }

    private static void ofData(String what, int n, String data, String want) {
        counts(what, Maker.ofChunks(Maker.head(), ABC + Maker.codedChunk(224, n, "5d", data), n + 3),
                IntervalPacker.DATA, want);
    }

    /** The step and the chunk in which a fault was met are left out, their bits are not. */
    private static void faultsInData() {
        ofData("a distance above P", 8, "003098889846e23a530000", "49 4 0 0 0 0 0 0 0 1 0");
        ofData("the greatest distance", 8, "0030988898473a90b2fffa1c6000", "78 4 0 0 0 0 0 0 0 1 0");
        ofData("a copy behind n", 7, "003098889846ddcf9b00", "48 4 0 0 0 0 0 0 0 1 0");
        ofData("too few bytes", 8, "003098889846ddcf9b", "41 4 0 0 0 0 0 0 0 1 0");
        ofData("too many bytes", 8, "003098889846ddcf9b0000", "48 4 1 0 0 0 0 0 0 1 0");
        ofData("CODE is left", 8, "003098889846ddcf9b01", "48 4 1 0 0 0 0 0 0 1 0");
        ofData("first byte", 8, "013098889846ddcf9b00", "0 0 0 0 0 0 0 0 0 1 0");
        ofData("four bytes", 8, "00309888", "0 0 0 0 0 0 0 0 0 1 0");
        ofData("repeated 0 at first", 2, "00cffffc00", "8 0 0 0 0 0 0 0 0 1 0");
        ofData("repeated 3 at first", 273, "00fffdffec00", "15 0 0 0 0 0 0 0 0 1 0");
        ofData("single at first", 1, "00bffffc00", "4 0 0 0 0 0 0 0 0 1 0");
    }

    private static void faultsOfChunks() {
        String open = Maker.start(0) + Maker.head() + CODED + ABC;
        String want = "48 4 1 0 0 0 0 0 1 1 0";
        counts("a wrong c", open + "03", IntervalPacker.FORM, want);
        counts("no c", open, IntervalPacker.CUT, want);
        counts("a cut plain one", open + "02000061".substring(0, 6), IntervalPacker.CUT, want);
        counts("a long plain one", open + Maker.plainChunk(2, "55".repeat(390)), IntervalPacker.LONG, want);
        counts("a cut coded one", open + CODED.substring(0, 20), IntervalPacker.CUT, want);
    }

    private static void faultsOfBlocks() {
        String first = Maker.start(0) + Maker.filled(Maker.head() + CODED + ABC + "00");
        String want = "48 4 1 0 0 0 0 0 1 1 1";
        counts("behind a block", first, IntervalPacker.CUT, want);
        counts("in the index", first + "0002", IntervalPacker.FORM, want);
        counts("in the second head", first + Maker.head(2, "01"), IntervalPacker.FORM, want);
        counts("in the second filling", first + Maker.head() + ABC + "0001", IntervalPacker.FORM,
                "48 4 1 0 0 0 0 0 1 2 1");
        counts("in the numbers of a head", first + Maker.head(2, "4006210100") + ABC + "00", IntervalPacker.DATA,
                "48 4 1 0 0 0 0 0 1 2 1");
        String checked = Maker.start(1) + Maker.filled(Maker.head() + ABC + "00");
        counts("in a check", checked + "00000000", IntervalPacker.SUMS, "0 0 0 0 0 0 0 0 0 1 0");
        counts("behind a check", checked + "c2412435", IntervalPacker.CUT, "0 0 0 0 0 0 0 0 0 1 1");
    }
}
