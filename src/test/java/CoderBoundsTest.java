/**
 * The boundary cases of THE CODER, each sentence with a test of its own. The data are written by Steps, which
 * follows the document alone; RANGE and CODE behind single bits are looked at where a bound is met.
 */
public final class CoderBoundsTest {
    private static final int DATA = IntervalPacker.DATA;
    private static final Due due = new Due();

    public static void main(String[] args) {
        beginsAnew();
        firstByteIsZero();
        fourBytesOfCode();
        codeBelowTheBound();
        probabilitiesGrowUpToTheirBound();
        probabilitiesFallDownToTheirBound();
        evenBitAtItsBound();
        evenBitOfAnOddRange();
        shiftBelowItsBound();
        shiftWithoutAByte();
        codeIsNotCut();
        shiftOnceMore();
        codeIsZeroInTheEnd();
        allBytesWereTaken();
        lowestBitsOfP();
        lowestBitsOfPForLiterals();
        highestBitsOfTheLastByte();
        literalOfAnEmptyDictionary();
        literalBelowStateSeven();
        bitsAsThoseOfB();
        statesBehindALiteral();
        statesBehindMatches();
        probabilitiesForEachStateAndQ();
        distancesMoveUp();
        lengthsAtTheirBounds();
        lengthsOfTheirOwn();
        lengthsForEachQ();
        distancesByLength();
        distancesAtTheirBounds();
        distancesBeyondAll();
        distancesBeyondAllBehindNearOnes();
        distanceAtMostP();
        repeatedDistanceAtMostP();
        noCopyBehindN();
        bytesThatWereJustGiven();
        due.end();
    }

    private static String container(Steps s) {
        String plain = s.given();
        return Maker.ofChunks(Maker.head(), s.chunk(224), plain.length() / 2);
    }

    private static void takes(String what, Steps s) {
        String plain = s.given();
        due.takes(what, container(s), plain);
    }

    private static void refuses(String what, Steps s) {
        due.refuses(what, container(s), DATA, 30);
    }

    private static void refusesData(String what, int n, String data) {
        due.refuses(what, Maker.ofChunks(Maker.head(), Maker.codedChunk(224, n, "5d", data), n), DATA, 30);
    }

    /** RANGE and CODE behind a bit, whatever becomes of the container. */
    private static void bit(String what, String container, int k, long range, long code) {
        IntervalPacker x = new IntervalPacker();
        Due.fill(x, container, true);
        x.watch(k);
        x.unpack();
        due.is(what + ", range()", x.range(), range);
        due.is(what + ", code()", x.code(), code);
    }

    /** RANGE and CODE behind each bit of what Steps wrote. */
    private static void eachBit(String what, Steps s) {
        String plain = s.given();
        String container = container(s);
        IntervalPacker x = new IntervalPacker();
        Due.fill(x, container, true);
        for (int k = 1; k <= s.bits(); k++) {
            x.watch(k);
            due.is(what + ", unpack()", x.unpack(), plain.length() / 2);
            due.is(what + ", range() of " + k, x.range(), s.bit(k)[0]);
            due.is(what + ", code() of " + k, x.code(), s.bit(k)[1]);
        }
        due.is(what + ", PLAIN", Due.hexOf(x, false), plain);
        due.is(what + ", bits", x.count(0), s.bits());
    }

    /** "Each 1024 when it begins anew, a STATE ..., then 0, and DISTANCES ..., then 1." */
    private static void beginsAnew() {
        for (int k = 0; k <= 3; k++) {
            takes("distance " + k + " is 1", new Steps(93).literal(0x61).repeated(k, 5));
        }
        takes("r0 is 1", new Steps(93).literal(0x61).single());
        eachBit("1024", new Steps(93).literal(0xA5));
        for (int k = 0; k <= 3; k++) {
            Steps s = new Steps(93);
            String first = s.literals("616263646566").copy(5, 9).copy(3, 2).copy(4, 8).copy(2, 2).chunk(224);
            s.anew(93).repeated(k, 4).single().literal(0x61);
            String chunks = first + s.chunk(160);
            due.takes("anew with c 160", Maker.ofChunks(Maker.head(), chunks, s.given().length() / 2), s.given());
        }
    }

    /** "(Byte 0 is 0)". */
    private static void firstByteIsZero() {
        Steps s = new Steps(93).literals("61626364");
        String data = s.data();
        due.is("byte 0", data.substring(0, 2), "00");
        takes("0", s);
        for (int b = 1; b <= 255; b++) {
            refusesData("byte 0 is " + b, 4, Maker.with(data, 0, b));
        }
    }

    /** "CODE, the number of the bytes 1 .. 4 of the data, highest first": all four are there. */
    private static void fourBytesOfCode() {
        Steps s = new Steps(93).literals("61").single();
        String data = s.data();
        due.is("six bytes", data.length(), 12);
        for (int m = 1; m < 6; m++) {
            refusesData(m + " bytes", 2, data.substring(0, 2 * m));
        }
        String four = Maker.ofChunks(Maker.head(), Maker.codedChunk(224, 1, "5d", "00123456"), 1);
        IntervalPacker x = due.refuses("four bytes", four, DATA, 30);
        due.is("no bit was taken", x.count(0), 0);
        String five = Maker.ofChunks(Maker.head(), Maker.codedChunk(224, 1, "5d", "0012345678"), 1);
        x = due.refuses("five bytes", five, DATA, 30);
        due.is("bits up to the second shift", x.count(0), 9);
        bit("the highest first", five, 1, 0x7FFFFC00L, 0x12345678L);
    }

    /** "If CODE is less than b, the bit is 0 ...; else it is 1": at b - 1, b and b + 1. */
    private static void codeBelowTheBound() {
        long b = 0xFFFFFFFFL / 2048 * 1024;
        for (long code : new long[] {0, 1, b - 1, b, b + 1, 0xFFFFFFFEL}) {
            String container = Maker.ofChunks(Maker.head(),
                    Maker.codedChunk(224, 1, "5d", String.format("00%08x", code) + "00"), 1);
            bit("CODE " + code, container, 1, code < b ? b : 0xFFFFFFFFL - b, code < b ? code : code - b);
        }
        // behind a bit 0 that p was 1024 for it is 1056, behind a 1 it is 992
        takes("the same bit again and again", new Steps(0).literals("00ff00ff0000ffff"));
    }

    /** "P grows by (2048 - p) / 32, rounded down": it ends at 2017. */
    private static void probabilitiesGrowUpToTheirBound() {
        Steps s = new Steps(0);
        for (int i = 0; i < 150; i++) {
            s.literal(0);
        }
        eachBit("zeros", s);
    }

    /** "P falls by p / 32, rounded down": it ends at 31. */
    private static void probabilitiesFallDownToTheirBound() {
        Steps s = new Steps(0);
        for (int i = 0; i < 150; i++) {
            s.literal(255);
        }
        s.literal(0).literal(255);
        eachBit("ones", s);
    }

    /** A copy far enough to have even bits, behind a plain chunk. */
    private static String farCopy(Steps s, long distance) {
        String chunks = s.plainChunk(1, "00".repeat(250));
        return chunks + s.copy(distance, 2).chunk(192);
    }

    /** "The bit is 1 if CODE is not less than RANGE then": at RANGE - 1 and at RANGE. */
    private static void evenBitAtItsBound() {
        Steps s = new Steps(0);
        // 128 + 1, the even bits 1 and 0, and four bits 0: CODE is RANGE at the first even one
        String chunks = farCopy(s, 161);
        int even = 2 + 1 + 3 + 6 + 1;
        due.takes("CODE is RANGE", Maker.ofChunks(Maker.head(), chunks, 252), "00".repeat(252));
        due.is("CODE behind it", s.bit(even)[1], 0);
        bit("CODE is RANGE", Maker.ofChunks(Maker.head(), chunks, 252), even, s.bit(even)[0], 0);
        due.is("CODE before it", s.bit(even - 1)[1] > 0, true);
        // two shifts make seven bytes of data; this bit has taken six, and their number is one less here
        int start = chunks.length() - 14;
        due.is("byte 0 of the data", chunks.substring(start, start + 2), "00");
        long less = Long.parseLong(chunks.substring(start, start + 12), 16) - 1;
        String other = chunks.substring(0, start) + String.format("%012x", less) + "00";
        long range = s.bit(even)[0];
        bit("CODE is RANGE - 1", Maker.ofChunks(Maker.head(), other, 252), even, range, range - 1);
    }

    /** "RANGE becomes RANGE / 2, rounded down": then CODE may be as great as RANGE behind the bit. */
    private static void evenBitOfAnOddRange() {
        for (int distance : new int[] {129, 144, 145, 177, 192, 193, 250}) {
            Steps s = new Steps(0);
            String first = s.plainChunk(1, "07".repeat(250));
            s.literals("0102030405060708").copy(distance, 2).copy(distance, 3).literal(9).copy(distance, 4);
            String chunks = first + s.chunk(192);
            int odd = 0;
            IntervalPacker x = new IntervalPacker();
            Due.fill(x, Maker.ofChunks(Maker.head(), chunks, s.given().length() / 2), true);
            for (int k = 1; k <= s.bits(); k++) {
                odd += s.bit(k)[0] % 2 == 1 ? 1 : 0;
                x.watch(k);
                due.is("unpack()", x.unpack(), s.given().length() / 2);
                due.is("range() of " + k, x.range(), s.bit(k)[0]);
                due.is("code() of " + k, x.code(), s.bit(k)[1]);
            }
            due.is("there are odd ones", odd > 0, true);
        }
    }

    /** "If RANGE is less than 0x1000000": at 0x1000000 it is not. */
    private static void shiftBelowItsBound() {
        Steps s = new Steps(93).literal(0x61).repeated(0, 2);
        String container = container(s);
        due.is("RANGE behind eight bits", s.bit(8)[0], 0x1000000);
        due.is("RANGE behind nine bits", s.bit(9)[0], 0x800000);
        due.is("RANGE behind ten bits", s.bit(10)[0], 0x40000000);
        for (int k = 7; k <= 11; k++) {
            bit("bit " + k, container, k, s.bit(k)[0], s.bit(k)[1]);
        }
        exactlyBelow();
    }

    /** A RANGE of 0xFFFFFF is shifted. */
    private static void exactlyBelow() {
        Steps s = new Steps(0).literals("4dc01bd7732322c4");
        due.is("RANGE behind 65 bits", s.bit(65)[0], 0xFFFFFF);
        eachBit("just below", s);
    }

    /** "The next byte of the data": without one the data are not as said, and that bit was not taken. */
    private static void shiftWithoutAByte() {
        Steps[] rows = {new Steps(93).literals("6162636465"), new Steps(93).literals("61626364").copy(2, 200),
            new Steps(93).literals("61").repeated(3, 100).single(), new Steps(93).literals("61").copy(1L << 32, 2),
            new Steps(93).literals("61").copy((1L << 31) + 1, 273)};
        for (Steps s : rows) {
            String data = s.data();
            int n = s.gift();
            int before = 0;
            for (int m = 5; m < data.length() / 2; m++) {
                String chunk = Maker.codedChunk(224, n, "5d", data.substring(0, 2 * m));
                IntervalPacker x = due.refuses(m + " bytes", Maker.ofChunks(Maker.head(), chunk, n), DATA, 30);
                due.is("bits of " + m + " bytes", x.count(0), s.bitsWith(m));
                due.is("more than with a byte less", s.bitsWith(m) > before, true);
                before = s.bitsWith(m);
            }
            due.is("bits in all", s.bitsWith(data.length() / 2), s.bits());
        }
    }

    /** "(CODE is not cut, however great)": each bit is 1 then, and CODE outgrows RANGE. */
    private static void codeIsNotCut() {
        String data = "00ffffffff" + "01020304050607";
        String chunks = Maker.plainChunk(1, "61") + Maker.codedChunk(192, 300, "00", data);
        String container = Maker.ofChunks(Maker.head(), chunks, 301);
        IntervalPacker x = due.refuses("CODE is RANGE at first", container, DATA, 34);
        // REPEATED 3 of 273 bytes, and again one, which goes on behind the 300
        due.is("counts", Due.countsOf(x), "30 0 0 0 0 0 0 1 0 1 0");
        long range = 0xFFFFFFFFL;
        long code = 0xFFFFFFFFL;
        int next = 5;
        int[] p = new int[30];
        java.util.Arrays.fill(p, 1024);
        // MATCH of state 0 and of state 8, AGAIN, ZERO, ONE, TWO likewise; the length's ten are the same again
        for (int k = 1; k <= 30; k++) {
            if (range < 0x1000000) {
                range *= 256;
                code = 256 * code + Integer.parseInt(data.substring(2 * next, 2 * next + 2), 16);
                next++;
            }
            int chance = k > 20 ? k - 16 : k - 1;
            long b = range / 2048 * p[chance];
            range -= b;
            code -= b;
            p[chance] -= p[chance] / 32;
            bit("bit " + k, container, k, range, code);
        }
        due.is("CODE is greater than RANGE", code > range, true);
        due.refuses("all 1", Maker.ofChunks(Maker.head(), Maker.plainChunk(1, "61")
                + Maker.codedChunk(192, 273, "00", "00" + "ff".repeat(6)), 274), DATA, 34);
        due.takes("one less is a CODE like others", Maker.ofChunks(Maker.head(), Maker.plainChunk(1, "61")
                + new Steps(0).literals("ffff").chunk(192), 3), "61ffff");
    }

    /** "When the chunk has given its n bytes, SHIFT once more": if RANGE is below its bound then. */
    private static void shiftOnceMore() {
        Steps below = new Steps(93).literal(0x61);
        due.is("RANGE is below", below.rangeNow() < 0x1000000, true);
        String six = below.data();
        due.is("six bytes", six.length(), 12);
        takes("the byte is there", below);
        refusesData("the byte is not there", 1, six.substring(0, 10));
        refusesData("a byte more", 1, six + "00");
        Steps above = new Steps(93).literal(0x61).single();
        due.is("RANGE is not below", above.rangeNow() >= 0x1000000, true);
        String again = above.data();
        due.is("six bytes", again.length(), 12);
        takes("no byte more is due", above);
        refusesData("a byte more", 2, again + "00");
        exactlyAtTheEnd();
    }

    /** A RANGE of 0x1000000 in the end is not shifted: eight bits behind a plain chunk. */
    private static void exactlyAtTheEnd() {
        Steps s = new Steps(0);
        String chunks = s.plainChunk(1, "61");
        s.repeated(0, 2);
        due.is("RANGE in the end", s.rangeNow(), 0x1000000);
        due.is("five bytes", s.data().length(), 10);
        chunks += s.chunk(192);
        due.takes("RANGE in the end", Maker.ofChunks(Maker.head(), chunks, 3), "616161");
        String more = chunks.substring(0, 8) + Maker.codedChunk(192, 2, "00", chunks.substring(20) + "00");
        due.refuses("a byte more", Maker.ofChunks(Maker.head(), more, 3), DATA, 34);
    }

    /** "Then CODE is 0": with 1 more it is not. */
    private static void codeIsZeroInTheEnd() {
        for (Steps s : new Steps[] {new Steps(93).literal(0x61), new Steps(93).literal(0x61).single(),
            new Steps(93).literals("61626364").copy(2, 4)}) {
            String data = s.data();
            int n = s.gift();
            int last = data.length() / 2 - 1;
            int b = Integer.parseInt(data.substring(2 * last), 16);
            takes("CODE is 0", s);
            refusesData("CODE is 1", n, Maker.with(data, last, b + 1));
            if (b > 0) {
                refusesData("one less", n, Maker.with(data, last, b - 1));
            }
        }
    }

    /** "And all bytes of the data were taken." */
    private static void allBytesWereTaken() {
        Steps s = new Steps(93).literals("61626364").copy(2, 4);
        String data = s.data();
        takes("all", s);
        for (int more = 1; more <= 3; more++) {
            refusesData(more + " more", 8, data + "00".repeat(more));
        }
        refusesData("one less", 8, data.substring(0, data.length() - 2));
        refusesData("a byte given less", 7, data);
        refusesData("a byte given more", 9, data);
    }

    /** "Q its lowest pb bits": behind 2^pb bytes it is as at first. */
    private static void lowestBitsOfP() {
        for (int pb = 0; pb <= 4; pb++) {
            Steps s = new Steps(45 * pb);
            for (int i = 0; i < 70; i++) {
                if (i % 17 == 16) {
                    s.copy(1 + i % 13, 2 + i % 7);
                } else if (i % 9 == 8) {
                    s.repeated(i % 2, 2 + i % 11);
                } else {
                    s.literal(i % 5 * 50);
                }
            }
            takes("pb " + pb, s);
        }
    }

    /** "The lowest lp bits of P": 0 .. 3 of them. */
    private static void lowestBitsOfPForLiterals() {
        for (int lp = 0; lp <= 3; lp++) {
            Steps s = new Steps(9 * lp);
            for (int i = 0; i < 60; i++) {
                s.literal(i % 8 == 7 ? 255 : i % 4 == 3 ? 15 : i % 2 * 3);
            }
            takes("lp " + lp, s);
        }
    }

    /** "And of the highest lc bits of the last byte": at the bytes where these change. */
    private static void highestBitsOfTheLastByte() {
        int[] last = {0, 31, 32, 63, 64, 127, 128, 159, 160, 191, 192, 223, 224, 255};
        for (int properties : new int[] {0, 1, 2, 3, 9 + 2, 18 + 1}) {
            Steps s = new Steps(properties);
            for (int i = 0; i < 70; i++) {
                s.literal(last[i * 5 % 14]);
            }
            takes("properties " + properties, s);
        }
    }

    /** "(0 if it is empty)": the first literal is one behind a byte below 32. */
    private static void literalOfAnEmptyDictionary() {
        takes("behind nothing", new Steps(3).literals("ff01ff01ff"));
        Steps s = new Steps(3);
        String chunks = s.plainChunk(1, "e0");
        s.emptied().literals("1f1f1f1fe0e0e01f");
        due.takes("behind what is not in it", Maker.ofChunks(Maker.head(), chunks + s.chunk(224), 9), s.given());
        Steps u = new Steps(3);
        String first = u.literals("ffffff").chunk(224);
        Steps v = new Steps(3);
        String second = v.literals("1f1f1fff1f").chunk(224);
        String both = Maker.filled(Maker.head() + first + "00") + Maker.filled(Maker.head() + second + "00");
        due.takes("behind another block", Maker.start(0) + both
                + Maker.close(Maker.index(13 + first.length() / 2, 3, 13 + second.length() / 2, 5), 0), "ffffff1f1f1fff1f");
    }

    /** "If the state is below 7, the byte is taken by tree 0. Else" by those of B. */
    private static void literalBelowStateSeven() {
        for (int state = 0; state <= 11; state++) {
            Steps s = reach(new Steps(0), state);
            for (int i = 0; i < 3; i++) {
                s.literals("5a5b");
                reach(s, state);
            }
            s.literal(0x5A);
            takes("literals in state " + state, s);
        }
    }

    /** Steps until the coder is in a state. */
    private static Steps reach(Steps s, int state) {
        for (int i = 0; i < 6 && (s.state() != 0 || s.size() < 3); i++) {
            s.literal(0x30 + i);
        }
        switch (state) {
            case 1: return s.copy(2, 2).literal(1).literal(2);
            case 2: return s.repeated(0, 2).literal(1).literal(2);
            case 3: return s.single().literal(1).literal(2);
            case 4: return s.copy(2, 2).literal(1);
            case 5: return s.repeated(0, 2).literal(1);
            case 6: return s.single().literal(1);
            case 7: return s.copy(3, 2);
            case 8: return s.repeated(1, 2);
            case 9: return s.single();
            case 10: return s.copy(3, 2).copy(2, 3);
            case 11: return s.copy(3, 2).single();
            default: return s;
        }
    }

    /** "As long as all bits so far are those of B": another bit at each of the eight places, and none. */
    private static void bitsAsThoseOfB() {
        for (int b : new int[] {0x00, 0xFF, 0xA5}) {
            Steps s = new Steps(0).literal(b).literal(b).literal(b);
            for (int bit = 7; bit >= -1; bit--) {
                for (int i = 0; i < 2; i++) {
                    s.copy(1, 2);
                    s.literal(bit < 0 ? b : b ^ (1 << bit)).literal(b).literal(b).literal(b).literal(b);
                }
            }
            takes("another bit than B's " + b, s);
        }
        takes("the lower bits differ too", new Steps(0).literals("0f0f").copy(1, 3).literal(0xF0).literals("0f0f").copy(1, 2)
                .literal(0xF0).literals("0f0f0f").copy(1, 2).literal(0x08));
    }

    /** "The state s becomes 0 if s is below 4, s - 3 if it is below 10, else s - 6." */
    private static void statesBehindALiteral() {
        int[] want = {0, 0, 0, 0, 1, 2, 3, 4, 5, 6, 4, 5};
        for (int state = 0; state <= 11; state++) {
            Steps s = new Steps(0);
            for (int i = 0; i < 3; i++) {
                reach(s, state);
                due.is("reached", s.state(), state);
                s.literal(0x77);
                due.is("behind it", s.state(), want[state]);
                // from here on each kind of step, so that the state's own probabilities are used
                tellTheState(s, i);
            }
            takes("a literal in state " + state, s);
            Steps other = new Steps(0);
            trainAll(other);
            reach(other, state).literal(0x77).single().literal(1);
            takes("a literal in state " + state + " among others", other);
            Steps more = new Steps(0);
            trainAll(more);
            reach(more, state).literal(0x77).literal(0x78).repeated(1, 2);
            takes("literals in state " + state + " among others", more);
        }
    }

    private static void tellTheState(Steps s, int i) {
        if (i == 0) {
            s.single();
        } else if (i == 1) {
            s.copy(2, 2);
        } else {
            s.repeated(2, 3);
        }
    }

    /** The probabilities of each state become other ones than those of each other state. */
    private static void trainAll(Steps s) {
        for (int state = 0; state <= 11; state++) {
            reach(s, state);
            if (state % 2 == 0) {
                s.literal(0x40 + state);
            } else if (state % 3 == 0) {
                s.copy(2, 2);
            } else {
                s.single();
            }
            if (s.size() > 250) {
                break;
            }
        }
    }

    /** "The state 7 if it is below 7, else 10"; 9 and 11 behind single bytes; 8 and 11 behind repeated ones. */
    private static void statesBehindMatches() {
        for (int state = 0; state <= 11; state++) {
            for (int kind = 0; kind < 6; kind++) {
                Steps s = new Steps(0);
                trainAll(s);
                for (int i = 0; i < 2; i++) {
                    reach(s, state);
                    due.is("reached", s.state(), state);
                    if (kind == 0) {
                        s.copy(2, 3);
                        due.is("behind a copy", s.state(), state < 7 ? 7 : 10);
                    } else if (kind == 1) {
                        s.single();
                        due.is("behind a single byte", s.state(), state < 7 ? 9 : 11);
                    } else {
                        s.repeated(kind - 2, 2);
                        due.is("behind a repeated one", s.state(), state < 7 ? 8 : 11);
                    }
                    s.literal(3).literal(4);
                    tellTheState(s, i);
                }
                takes("kind " + kind + " in state " + state, s);
            }
        }
    }

    /** "For each state and q: MATCH, LONG": the last q of a state, and the first one of the next state. */
    private static void probabilitiesForEachStateAndQ() {
        for (int state = 0; state < 11; state++) {
            Steps s = new Steps(180).literals("303132");
            for (int i = 0; i < 4; i++) {
                reachAt(s, state, 15);
                s.single();
                reachAt(s, state + 1, 0);
                s.repeated(0, 2);
            }
            takes("single bytes in state " + state + ", repeated ones in the next", s);
            Steps t = new Steps(180).literals("303132");
            for (int i = 0; i < 4; i++) {
                reachAt(t, state, 15);
                t.literal(0x50);
                reachAt(t, state + 1, 0);
                t.copy(2, 2);
            }
            takes("literals in state " + state + ", copies in the next", t);
        }
    }

    /** Steps until the coder is in a state and P has these lowest four bits. */
    private static void reachAt(Steps s, int state, int q) {
        int needed = reach(new Steps(0).literals("303132"), state).size() - 3;
        for (int i = 0; i < 24 && (s.state() != 0 || (s.size() + needed) % 16 != q); i++) {
            s.literal(0x30 + i);
        }
        reach(s, state);
        due.is("state", s.state(), state);
        due.is("q", s.size() % 16, q);
    }

    /** "R3, r2, r1 become r2, r1, r0"; "r0 is what r(k) was, and r0 .. r(k - 1) move up by one". */
    private static void distancesMoveUp() {
        for (int a = 0; a <= 3; a++) {
            for (int b = 0; b <= 3; b++) {
                for (int c = 0; c <= 3; c++) {
                    Steps s = new Steps(93).literals("000102030405060708090a0b0c0d0e0f");
                    s.copy(5, 2).copy(7, 2).copy(11, 2).copy(13, 2).literal(0x21).repeated(a, 2).literal(0x22).repeated(b, 2);
                    s.literal(0x23).repeated(c, 3).literal(0x24).single().copy(3, 2).repeated(3, 2);
                    takes("repeated " + a + ", " + b + ", " + c, s);
                }
            }
        }
    }

    /** "2 more", "10 more", "18 more": 2, 9, 10, 17, 18 and 273. */
    private static void lengthsAtTheirBounds() {
        for (int length : new int[] {2, 3, 8, 9, 10, 11, 16, 17, 18, 19, 100, 145, 146, 272, 273}) {
            takes("a copy of " + length, new Steps(93).literals("616263").copy(3, length).literal(0x64));
            for (int k = 0; k <= 3; k++) {
                takes("repeated " + k + " of " + length, new Steps(93).literals("61").repeated(k, length).literal(0x64));
            }
        }
        takes("all of them", new Steps(93).literals("616263").copy(3, 2).copy(2, 9).copy(3, 10).copy(2, 17).copy(3, 18)
                .repeated(0, 2).repeated(1, 9).repeated(2, 10).repeated(3, 17).repeated(0, 18).copy(3, 9).copy(3, 17));
    }

    /** "(Copies and repeated ones have probabilities of their own.)" */
    private static void lengthsOfTheirOwn() {
        Steps s = new Steps(0).literals("6162636465");
        for (int i = 0; i < 6; i++) {
            s.copy(2 + i % 3, 20).repeated(0, 2).copy(3, 12).repeated(1, 3);
        }
        takes("long copies and short repeated ones", s);
        Steps t = new Steps(0).literals("6162636465");
        for (int i = 0; i < 6; i++) {
            t.copy(2 + i % 3, 2).repeated(0, 20).copy(3, 3).repeated(1, 12);
        }
        takes("short copies and long repeated ones", t);
        // the trees of 3 bits are those of q, the tree of 8 bits is one
        for (int pb = 0; pb <= 4; pb++) {
            Steps u = new Steps(45 * pb).literals("61626364656667");
            for (int i = 0; i < 12; i++) {
                u.copy(2 + i % 5, 2 + i % 8).copy(3 + i % 4, 10 + i * 3 % 8);
            }
            takes("lengths with pb " + pb, u);
        }
    }

    /** "A tree of 3 bits for q": that of the last q ends before the tree of 8 bits, which is one for all. */
    private static void lengthsForEachQ() {
        for (int q : new int[] {0, 7, 8, 14, 15}) {
            for (boolean again : new boolean[] {false, true}) {
                Steps s = new Steps(45 * 4);
                for (int i = 0; i < 3; i++) {
                    for (int length : new int[] {17, 18, 9, 19, 10, 25, 2, 50, 17, 9}) {
                        while (s.size() % 16 != q || s.size() == 0) {
                            s.literal(0x40 + s.size() % 9);
                        }
                        if (s.size() + length > 380) {
                            break;
                        }
                        if (again) {
                            s.repeated(0, length);
                        } else {
                            s.copy(1 + i, length);
                        }
                    }
                }
                takes("lengths at q " + q, s);
            }
        }
    }

    /** "A tree of 6 bits, one of four by the length, 2, 3, 4, or more." */
    private static void distancesByLength() {
        Steps s = new Steps(0).literals("6162636465666768");
        for (int i = 0; i < 6; i++) {
            s.copy(1, 2).copy(2, 3).copy(3, 4).copy(6, 5).copy(6, 6).copy(6, 9);
        }
        takes("each length with a distance of its own", s);
        for (int length = 2; length <= 7; length++) {
            Steps t = new Steps(0).literals("6162636465666768");
            for (int i = 0; i < 4; i++) {
                t.copy(1, 2).copy(2, 3).copy(3, 4).copy(7, 5);
            }
            t.copy(8, length).copy(4, length);
            takes("length " + length + " then", t);
        }
    }

    private static Steps longRow() {
        Steps s = new Steps(93);
        for (int i = 0; i < 390; i++) {
            s.literal((i * 37 + i / 11 * 5) & 255);
        }
        return s;
    }

    /** "If x is below 4", "if x is even", "if x is below 14": the least and the greatest distance of each x. */
    private static void distancesAtTheirBounds() {
        int[] bounds = {1, 2, 3, 4, 5, 6, 7, 8, 9, 12, 13, 16, 17, 24, 25, 32, 33, 48, 49, 64, 65, 96, 97, 128, 129, 192,
            193, 256, 257, 384, 385, 390};
        StringBuilder plain = new StringBuilder();
        for (int i = 0; i < 390; i++) {
            plain.append(String.format("%02x", (i * 37 + i / 11 * 5) & 255));
        }
        for (int distance : bounds) {
            Steps s = new Steps(93);
            String chunks = s.plainChunk(1, plain.toString());
            s.copy(distance, 2).copy(distance, 3);
            chunks += s.chunk(192);
            due.takes("distance " + distance, Maker.ofChunks(Maker.head(), chunks, 395), s.given());
        }
        Steps s = new Steps(93);
        String first = s.plainChunk(1, plain.substring(0, 520));
        for (int distance : bounds) {
            s.copy(Math.min(distance, 260), 2);
        }
        String chunks = first + s.chunk(192);
        due.takes("one behind the other", Maker.ofChunks(Maker.head(), chunks, s.given().length() / 2), s.given());
    }

    /** A distance of each x up to the greatest, 2^32: more than P, after all of its bits. */
    private static void distancesBeyondAll() {
        for (int x = 18; x <= 63; x++) {
            int k = x / 2 - 1;
            long least = (2L + x % 2 << k) + 1;
            for (long distance : new long[] {least, least + (1L << k) - 1}) {
                Steps s = new Steps(93).literals("61626364").copy(distance, 4);
                int bits = s.bits();
                due.is("bits", bits, 36 + 2 + 4 + 6 + k);
                IntervalPacker y = due.refuses("distance " + distance, container(s), DATA, 30);
                due.is("bits of " + distance, y.count(0), bits);
                due.is("literals of " + distance, y.count(1), 4);
                due.is("copies of " + distance, y.count(2), 0);
            }
        }
        Steps greatest = new Steps(93).literals("61").copy(1L << 32, 2);
        refuses("2^32", greatest);
    }

    /** The greatest x have probabilities that no near distance shares: RANGE and CODE behind each bit tell it. */
    private static void distancesBeyondAllBehindNearOnes() {
        for (int x = 56; x <= 63; x++) {
            long least = (2L + x % 2 << (x / 2 - 1)) + 1;
            for (int length = 2; length <= 5; length++) {
                Steps s = new Steps(93).literals("6162636465666768696a6b6c6d6e6f70");
                for (int near : new int[] {5, 6, 7, 8, 9, 12, 13, 16, 5, 7, 5}) {
                    s.copy(near, length);
                }
                s.copy(least, length);
                int bits = s.bits();
                String container = container(s);
                IntervalPacker y = due.refuses("distance " + least, container, DATA, 30);
                due.is("bits", y.count(0), bits);
                for (int k = bits - x / 2 - 12; k <= bits; k++) {
                    bit("bit " + k, container, k, s.bit(k)[0], s.bit(k)[1]);
                }
            }
        }
    }

    /** "A distance is at most P": P is taken, P + 1 is not. */
    private static void distanceAtMostP() {
        refuses("1 of none", new Steps(93).copy(1, 2));
        for (int p : new int[] {1, 2, 3, 4, 5, 100, 200}) {
            String plain = "";
            for (int i = 0; i < p; i++) {
                plain += String.format("%02x", i * 3 & 255);
            }
            takes("P of " + p, new Steps(93).literals(plain).copy(p, 2));
            Steps beyond = new Steps(93).literals(plain).copy(p + 1, 2);
            int bits = beyond.bits();
            IntervalPacker x = due.refuses("P + 1 of " + p, container(beyond), DATA, 30);
            due.is("bits", x.count(0), bits);
            due.is("literals", x.count(1), p);
            due.is("copies", x.count(2), 0);
        }
    }

    /** "A distance is at most P": those of single and repeated bytes too. */
    private static void repeatedDistanceAtMostP() {
        for (int k = 0; k <= 3; k++) {
            refuses("repeated " + k + " at first", new Steps(93).repeated(k, 2));
        }
        refuses("a single byte at first", new Steps(93).single());
        IntervalPacker x = due.refuses("a single byte at first", container(new Steps(93).single()), DATA, 30);
        due.is("counts", Due.countsOf(x), "4 0 0 0 0 0 0 0 0 0 0");
        x = due.refuses("repeated 3 at first", container(new Steps(93).repeated(3, 2)), DATA, 30);
        due.is("counts", Due.countsOf(x), "9 0 0 0 0 0 0 0 0 0 0");
    }

    /** "And no copy goes on behind the n bytes of the chunk": up to n it may go. */
    private static void noCopyBehindN() {
        for (int length : new int[] {2, 3, 9, 10, 17, 18, 273}) {
            for (int kind = 0; kind < 5; kind++) {
                Steps fits = new Steps(93).literals("6162");
                Steps beyond = new Steps(93).literals("6162");
                if (kind == 4) {
                    fits.copy(2, length);
                    beyond.copy(2, length);
                } else {
                    fits.repeated(kind, length);
                    beyond.repeated(kind, length);
                }
                takes("up to n", fits);
                int bits = beyond.bits();
                String chunk = beyond.chunk(224, 1 + length, beyond.data());
                IntervalPacker x = due.refuses("behind n", Maker.ofChunks(Maker.head(), chunk, 1 + length), DATA, 30);
                due.is("bits", x.count(0), bits);
                due.is("literals", x.count(1), 2);
                due.is("copies and repeated ones", x.count(2) + x.count(4) + x.count(5) + x.count(6) + x.count(7), 0);
            }
        }
        // a copy does not go on in the next chunk
        Steps s = new Steps(93).literals("6162").copy(2, 5);
        String first = s.chunk(224, 6, s.data());
        String second = s.literal(0x63).chunk(128);
        due.refuses("into the next chunk", Maker.ofChunks(Maker.head(), first + second, 7), DATA, 30);
    }

    /** "One after the other, each the byte of the dictionary r0 back": also one that was just given. */
    private static void bytesThatWereJustGiven() {
        takes("as far as it goes", new Steps(93).literals("616263").copy(3, 3).literal(0x64));
        takes("one more", new Steps(93).literals("616263").copy(3, 4).literal(0x64));
        takes("over and over", new Steps(93).literals("616263").copy(2, 200).literal(0x64));
        takes("a long row", longRow().copy(390, 10));
    }
}
