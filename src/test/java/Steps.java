import java.math.BigInteger;
import java.util.ArrayList;
import java.util.HashMap;
import java.util.List;
import java.util.Map;

/**
 * Writes the chunks of one block step by step, by the words of the document alone: each probability has a
 * name, and LOW is one number of any size. What is wrong is written too: a test says what becomes of it.
 */
final class Steps {
    private static final BigInteger BYTE = BigInteger.valueOf(256);

    private final Map<String, Integer> chances = new HashMap<>();
    private final List<Integer> given = new ArrayList<>();
    private final List<long[]> bits = new ArrayList<>();
    private final List<BigInteger> lows = new ArrayList<>();
    private final List<Integer> shiftsBehind = new ArrayList<>();
    private final long[] r = {1, 1, 1, 1};
    private int dictionary;
    private int chunkStart;
    private int chunkBits;
    private int properties;
    private int state;
    private long range;
    private BigInteger low;
    private int shifts;

    Steps(int properties) {
        anew(properties);
        beginChunk();
    }

    private void beginChunk() {
        chunkStart = given.size();
        chunkBits = bits.size();
        range = 0xFFFFFFFFL;
        low = BigInteger.ZERO;
        shifts = 0;
    }

    /** The coder begins anew, before that with other properties. */
    Steps anew(int other) {
        properties = other;
        chances.clear();
        state = 0;
        java.util.Arrays.fill(r, 1);
        return this;
    }

    Steps emptied() {
        dictionary = given.size();
        return this;
    }

    /** A plain chunk; one with c = 1 makes the dictionary empty. */
    String plainChunk(int c, String bytes) {
        if (c == 1) {
            emptied();
        }
        for (int i = 0; i < bytes.length(); i += 2) {
            given.add(Integer.parseInt(bytes.substring(i, i + 2), 16));
        }
        beginChunk();
        return Maker.plainChunk(c, bytes);
    }

    int state() {
        return state;
    }

    int properties() {
        return properties;
    }

    /** r(k). */
    long distance(int k) {
        return r[k];
    }

    /** P, the number of bytes in the dictionary. */
    int size() {
        return given.size() - dictionary;
    }

    /** RANGE as it is now. */
    long rangeNow() {
        return range;
    }

    /** How many bits there are in all chunks so far. */
    int bits() {
        return bits.size();
    }

    /** RANGE and CODE behind bit k, counted from 1; CODE is known when the chunk has been written. */
    long[] bit(int k) {
        return bits.get(k - 1);
    }

    /** All bytes that the block gives. */
    String given() {
        return hexFrom(0);
    }

    private String hexFrom(int start) {
        StringBuilder hex = new StringBuilder();
        for (int b : given.subList(start, given.size())) {
            hex.append(String.format("%02x", b));
        }
        return hex.toString();
    }

    private int back(long distance) {
        return distance > size() ? 0 : given.get(given.size() - (int) distance);
    }

    private int q() {
        return size() % (1 << (properties / 45));
    }

    Steps literal(int b) {
        bit("MATCH " + state + " " + q(), 0);
        int lc = properties % 9;
        int lp = properties / 9 % 5;
        String trees = "LITERAL " + size() % (1 << lp) + " " + (back(1) >> (8 - lc)) + " ";
        boolean alike = state >= 7;
        int v = 1;
        for (int i = 7; i >= 0; i--) {
            int bit = (b >> i) & 1;
            int of = (back(r[0]) >> i) & 1;
            bit(trees + (alike ? 1 + of : 0) + " " + v, bit);
            alike = alike && bit == of;
            v = 2 * v + bit;
        }
        given.add(b);
        state = state < 4 ? 0 : state < 10 ? state - 3 : state - 6;
        return this;
    }

    Steps literals(String hex) {
        for (int i = 0; i < hex.length(); i += 2) {
            literal(Integer.parseInt(hex.substring(i, i + 2), 16));
        }
        return this;
    }

    Steps copy(long distance, int length) {
        bit("MATCH " + state + " " + q(), 1);
        bit("AGAIN " + state, 0);
        for (int i = 3; i > 0; i--) {
            r[i] = r[i - 1];
        }
        length("COPY", length);
        distance(distance, length);
        r[0] = distance;
        state = state < 7 ? 7 : 10;
        return give(length);
    }

    Steps single() {
        bit("MATCH " + state + " " + q(), 1);
        bit("AGAIN " + state, 1);
        bit("ZERO " + state, 0);
        bit("LONG " + state + " " + q(), 0);
        state = state < 7 ? 9 : 11;
        return give(1);
    }

    Steps repeated(int k, int length) {
        bit("MATCH " + state + " " + q(), 1);
        bit("AGAIN " + state, 1);
        bit("ZERO " + state, k == 0 ? 0 : 1);
        if (k == 0) {
            bit("LONG " + state + " " + q(), 1);
        } else {
            bit("ONE " + state, k == 1 ? 0 : 1);
        }
        if (k > 1) {
            bit("TWO " + state, k == 2 ? 0 : 1);
        }
        long first = r[k];
        for (int i = k; i > 0; i--) {
            r[i] = r[i - 1];
        }
        r[0] = first;
        length("REPEATED", length);
        state = state < 7 ? 8 : 11;
        return give(length);
    }

    private Steps give(int length) {
        for (int i = 0; i < length; i++) {
            given.add(back(r[0]));
        }
        return this;
    }

    private void length(String whose, int length) {
        bit(whose + " short", length < 10 ? 0 : 1);
        if (length < 10) {
            tree(whose + " short " + q(), 3, length - 2);
            return;
        }
        bit(whose + " middle", length < 18 ? 0 : 1);
        if (length < 18) {
            tree(whose + " middle " + q(), 3, length - 10);
        } else {
            tree(whose + " great", 8, length - 18);
        }
    }

    private void distance(long distance, int length) {
        String slots = "SLOT " + Math.min(length, 5);
        if (distance <= 4) {
            tree(slots, 6, distance - 1);
            return;
        }
        int x = 4;
        while (x < 63 && first(x + 1) <= distance) {
            x++;
        }
        tree(slots, 6, x);
        int k = x / 2 - 1;
        long rest = distance - first(x);
        if (x < 14) {
            backwards("NEAR " + x, k, rest);
            return;
        }
        for (int i = k - 1; i >= 4; i--) {
            evenBit((int) (rest >> i) & 1);
        }
        backwards("FAR", 4, rest % 16);
    }

    /** The least distance with this number of the tree of 6 bits. */
    private static long first(int x) {
        return (1L << (x / 2 - 1)) * (x % 2 == 0 ? 2 : 3) + 1;
    }

    private void tree(String name, int k, long number) {
        int v = 1;
        for (int i = k - 1; i >= 0; i--) {
            int bit = (int) (number >> i) & 1;
            bit(name + " " + v, bit);
            v = 2 * v + bit;
        }
    }

    private void backwards(String name, int k, long number) {
        int v = 1;
        for (int i = 0; i < k; i++) {
            int bit = (int) (number >> i) & 1;
            bit(name + " " + v, bit);
            v = 2 * v + bit;
        }
    }

    private void shift() {
        if (range < 0x1000000L) {
            range *= 256;
            low = low.multiply(BYTE);
            shifts++;
        }
    }

    private void bit(String chance, int bit) {
        shift();
        int p = chances.getOrDefault(chance, 1024);
        long b = range / 2048 * p;
        if (bit == 0) {
            range = b;
            p += (2048 - p) / 32;
        } else {
            low = low.add(BigInteger.valueOf(b));
            range -= b;
            p -= p / 32;
        }
        chances.put(chance, p);
        keep();
    }

    private void evenBit(int bit) {
        shift();
        range /= 2;
        if (bit == 1) {
            low = low.add(BigInteger.valueOf(range));
        }
        keep();
    }

    private void keep() {
        bits.add(new long[] {range, 0});
        lows.add(low);
        shiftsBehind.add(shifts);
    }

    /** The data of the chunk as it is now: LOW behind one more SHIFT. */
    String data() {
        BigInteger number = range < 0x1000000L ? low.multiply(BYTE) : low;
        int size = 5 + shifts + (range < 0x1000000L ? 1 : 0);
        StringBuilder hex = new StringBuilder(number.toString(16));
        while (hex.length() < 2 * size) {
            hex.insert(0, '0');
        }
        return hex.toString();
    }

    /** How many bits of the chunk are taken when its data have m bytes. */
    int bitsWith(int m) {
        int taken = 0;
        for (int i = chunkBits; i < bits.size() && 5 + shiftsBehind.get(i) <= m; i++) {
            taken++;
        }
        return taken;
    }

    /** How many bytes the chunk gives as it is now. */
    int gift() {
        return given.size() - chunkStart;
    }

    /** The whole coded chunk; then the next one begins. */
    String chunk(int c) {
        return chunk(c, gift(), data());
    }

    /** The bytes that the chunk gives, as a plain one in its place. */
    String plainInstead(int c) {
        String bytes = hexFrom(chunkStart);
        beginChunk();
        return Maker.plainChunk(c, bytes);
    }

    /** With another number of bytes, or other data. */
    String chunk(int c, int n, String data) {
        keepCodes(data);
        beginChunk();
        return Maker.codedChunk(c, n, c < 192 ? "" : String.format("%02x", properties), data);
    }

    private void keepCodes(String data) {
        for (int i = chunkBits; i < bits.size(); i++) {
            int taken = Math.min(2 * (5 + shiftsBehind.get(i)), data.length());
            BigInteger number = new BigInteger(data.substring(0, taken), 16);
            bits.get(i)[1] = number.subtract(lows.get(i)).longValue();
        }
    }
}
