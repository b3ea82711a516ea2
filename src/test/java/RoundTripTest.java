/** Promises 7 and 8 together: what was packed is unpacked again, and what was changed is never taken for it. */
public final class RoundTripTest {
    private static final Due due = new Due();
    private static long seed = 20261115;

    public static void main(String[] args) {
        for (int i = 0; i < 1500; i++) {
            roundTrip(i);
        }
        for (int i = 0; i < 12; i++) {
            changedAnywhere(i);
        }
        for (int i = 0; i < 20000; i++) {
            anyBytes(i);
        }
        due.end();
    }

    /** A row of numbers that is the same in each run. */
    private static int next(int below) {
        seed = seed * 6364136223846793005L + 1442695040888963407L;
        return (int) ((seed >>> 33) % below);
    }

    private static void fillPlain(IntervalPacker x, int most) {
        int letters = 1 + next(next(2) == 0 ? 4 : 256);
        int size = next(most + 1);
        for (int i = 0; i < 400 && Due.hexOf(x, false).length() / 2 < size; i++) {
            if (next(3) == 0) {
                x.copy(1 + next(20), 1 + next(40));
            } else {
                x.feed(next(letters), 1, false);
            }
        }
        x.cut(Math.min(size, Due.hexOf(x, false).length() / 2), false);
    }

    private static int someProperties() {
        int lc = next(4);
        int lp = next(4 - lc);
        return (next(5) * 5 + lp) * 9 + lc;
    }

    private static int someSort() {
        return new int[] {0, 1, 4}[next(3)];
    }

    private static void roundTrip(int run) {
        IntervalPacker x = new IntervalPacker();
        fillPlain(x, 400);
        String plain = Due.hexOf(x, false);
        int size = x.pack(someSort(), someProperties(), 1 + next(400));
        due.is("run " + run + ", PLAIN stays", Due.hexOf(x, false), plain);
        if (size == IntervalPacker.LONG) {
            return;
        }
        due.is("run " + run + ", a multiple of four", size % 4, 0);
        x.cut(0, false);
        due.is("run " + run + ", unpack()", x.unpack(), plain.length() / 2);
        due.is("run " + run + ", PLAIN", Due.hexOf(x, false), plain);
    }

    /** With a check no change of one byte goes through; without one it may only be a fault or other bytes. */
    private static void changedAnywhere(int run) {
        IntervalPacker x = new IntervalPacker();
        fillPlain(x, 120);
        int sort = 1 + 3 * (run % 2);
        int size = x.pack(sort, someProperties(), 1 + next(60));
        String plain = Due.hexOf(x, false);
        for (int i = 0; i < size; i++) {
            int before = x.at(i, true);
            x.change(i, before ^ (1 + next(255)));
            int answer = x.unpack();
            due.is("byte " + i + " is changed: a fault", answer <= IntervalPacker.CUT, true);
            due.is("byte " + i + " is changed: a place", x.where() >= 0 && x.where() <= size, true);
            due.is("byte " + i + " is changed: PLAIN", Due.hexOf(x, false), plain);
            x.change(i, before);
        }
        due.is("changed back", x.unpack(), plain.length() / 2);
    }

    /** Data that nobody has written: whatever they are, each call answers. */
    private static void anyBytes(int run) {
        StringBuilder data = new StringBuilder("00");
        int size = 4 + next(200);
        int ones = next(3);
        for (int i = 0; i < size; i++) {
            data.append(String.format("%02x", ones == 0 && i < 4 ? 255 : next(256)));
        }
        String properties = String.format("%02x", someProperties());
        int n = 1 + next(300);
        String chunks = Maker.codedChunk(224, n, properties, data.toString());
        if (next(2) == 0) {
            chunks = Maker.codedChunk(224, 8, "5d", "003098889846ddcf9b00") + Maker.codedChunk(128, n, "", data.toString());
        }
        IntervalPacker x = new IntervalPacker();
        Due.fill(x, Maker.ofChunks(Maker.head(), chunks, n), true);
        int answer = x.unpack();
        due.is("run " + run, answer == IntervalPacker.DATA && x.where() >= 30, true);
    }
}
