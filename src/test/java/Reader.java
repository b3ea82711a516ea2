import java.math.BigInteger;
import java.util.ArrayList;
import java.util.HashMap;
import java.util.List;
import java.util.Map;

/**
 * UNPACKING by the words of the document alone: each item is read where it stands, a fault ends all, each
 * probability has a name, and CODE is one number of any size.
 */
final class Reader {
    /** The first fault. */
    private static final class Fault extends RuntimeException {
        private static final long serialVersionUID = 1;
        private final int what;
        private final int place;

        Fault(int what, int place) {
            this.what = what;
            this.place = place;
        }
    }

    private final int[] packed;
    private final int watched;
    private final List<Integer> given = new ArrayList<>();
    private final List<long[]> blocks = new ArrayList<>();
    private final Map<String, Integer> chances = new HashMap<>();
    private final long[] r = new long[4];
    private int sort;
    private int dictionary;
    private int state;
    private int lc;
    private int lp;
    private int pb;
    private int data;
    private int dataEnd;
    private BigInteger codeNow;
    private long rangeNow;
    private int dataStart;
    final int[] counts = new int[11];
    long range = -1;
    long code = -1;
    int answer;
    int where = -1;

    Reader(String hex, int watched) {
        packed = new int[hex.length() / 2];
        for (int i = 0; i < packed.length; i++) {
            packed[i] = Integer.parseInt(hex.substring(2 * i, 2 * i + 2), 16);
        }
        this.watched = watched;
        try {
            readAll();
            answer = given.size();
        } catch (Fault fault) {
            answer = fault.what;
            where = fault.place;
        }
    }

    String given() {
        StringBuilder hex = new StringBuilder();
        for (int b : given) {
            hex.append(String.format("%02x", b));
        }
        return hex.toString();
    }

    private void need(int place, int n) {
        if (place + n > packed.length) {
            throw new Fault(IntervalPacker.CUT, place);
        }
    }

    private void must(boolean holds, int fault, int place) {
        if (!holds) {
            throw new Fault(fault, place);
        }
    }

    private String hex(int from, int to) {
        StringBuilder hex = new StringBuilder();
        for (int i = from; i < to; i++) {
            hex.append(String.format("%02x", packed[i]));
        }
        return hex.toString();
    }

    private int sum(int place, String due) {
        need(place, due.length() / 2);
        must(hex(place, place + due.length() / 2).equals(due), IntervalPacker.SUMS, place);
        return place + due.length() / 2;
    }

    private int zeros(int start, int place) {
        int next = place;
        while ((next - start) % 4 != 0) {
            need(next, 1);
            must(packed[next] == 0, IntervalPacker.FORM, next);
            next++;
        }
        return next;
    }

    /** How many bytes the number here has; it ends before the limit, or it is a fault. */
    private int numberSize(int place, int limit, int beyond) {
        for (int n = 1; n <= 9; n++) {
            if (place + n > limit) {
                throw new Fault(beyond, place);
            }
            int b = packed[place + n - 1];
            if (b < 128) {
                must(n == 1 || b != 0, IntervalPacker.FORM, place);
                return n;
            }
        }
        throw new Fault(IntervalPacker.FORM, place);
    }

    private long number(int place, int n) {
        long number = 0;
        for (int i = n - 1; i >= 0; i--) {
            number = number * 128 + packed[place + i] % 128;
        }
        return number;
    }

    private void readAll() {
        need(0, 6);
        must(hex(0, 6).equals("fd377a585a00"), IntervalPacker.FORM, 0);
        need(6, 2);
        sort = packed[7];
        must(packed[6] == 0 && (sort == 0 || sort == 1 || sort == 4), IntervalPacker.FORM, 6);
        int next = sum(8, Maker.sumFour(hex(6, 8)));
        for (;;) {
            need(next, 1);
            if (packed[next] == 0) {
                break;
            }
            next = readBlock(next);
        }
        readIndexAndEnd(next);
    }

    private void readIndexAndEnd(int start) {
        int next = told(start + 1, blocks.size());
        for (long[] block : blocks) {
            next = told(next, block[0]);
            next = told(next, block[1]);
        }
        next = zeros(start, next);
        next = sum(next, Maker.sumFour(hex(start, next)));
        int quarter = (next - start) / 4 - 1;
        need(next, 12);
        must(hex(next, next + 4).equals(Maker.sumFour(hex(next + 4, next + 10))), IntervalPacker.SUMS, next);
        String due = Maker.lowFirst(quarter, 4) + String.format("00%02x", sort) + "595a";
        must(hex(next + 4, next + 12).equals(due), IntervalPacker.FORM, next);
        must(packed.length == next + 12, IntervalPacker.FORM, next + 12);
    }

    private int told(int place, long due) {
        int n = numberSize(place, packed.length, IntervalPacker.CUT);
        must(number(place, n) == due, IntervalPacker.FORM, place);
        return place + n;
    }

    private void headItem(int place, int sumPlace, boolean holds) {
        must(place < sumPlace && holds, IntervalPacker.FORM, place);
    }

    private int readBlock(int start) {
        int sumPlace = start + 4 * packed[start];
        need(start, 4 * packed[start] + 4);
        sum(sumPlace, Maker.sumFour(hex(start, sumPlace)));
        int flags = packed[start + 1];
        headItem(start + 1, sumPlace, flags == 0 || flags == 64 || flags == 128 || flags == 192);
        int next = start + 2;
        long size = -1;
        long gift = -1;
        if (flags % 128 == 64) {
            int n = numberSize(next, sumPlace, IntervalPacker.FORM);
            size = number(next, n);
            must(size != 0, IntervalPacker.FORM, next);
            next += n;
        }
        if (flags >= 128) {
            int n = numberSize(next, sumPlace, IntervalPacker.FORM);
            gift = number(next, n);
            next += n;
        }
        headItem(next, sumPlace, packed[next] == 33);
        headItem(next + 1, sumPlace, packed[next + 1] == 1);
        headItem(next + 2, sumPlace, packed[next + 2] <= 40);
        for (int i = next + 3; i < sumPlace; i++) {
            headItem(i, sumPlace, packed[i] == 0);
        }
        int before = given.size();
        int end = readChunks(sumPlace + 4);
        boolean sizeFits = size == -1 || size == end - sumPlace - 4;
        boolean giftFits = gift == -1 || gift == given.size() - before;
        must(sizeFits && giftFits, IntervalPacker.DATA, start);
        int filled = zeros(start, end);
        String plain = given().substring(2 * before);
        int behind = sum(filled, Maker.check(sort, plain));
        blocks.add(new long[] {end - start + behind - filled, given.size() - before});
        counts[10]++;
        return behind;
    }

    private int readChunks(int start) {
        boolean isFirst = true;
        boolean hasProperties = false;
        int next = start;
        for (;;) {
            need(next, 1);
            int c = packed[next];
            if (c == 0) {
                return next + 1;
            }
            must(c == 1 || c == 2 || c >= 128, IntervalPacker.FORM, next);
            boolean empties = c == 1 || c >= 224;
            must(empties || !isFirst, IntervalPacker.FORM, next);
            if (empties) {
                dictionary = given.size();
                hasProperties = false;
            }
            must(c < 128 || c >= 192 || hasProperties, IntervalPacker.FORM, next);
            isFirst = false;
            hasProperties = hasProperties || c >= 192;
            need(next + 1, 2);
            int n = packed[next + 1] * 256 + packed[next + 2] + 1;
            next = c < 128 ? readPlain(next + 3, n) : readCoded(next + 3, c, n + (c % 32) * 65536);
        }
    }

    private int readPlain(int place, int n) {
        need(place, n);
        must(given.size() + n <= 400, IntervalPacker.LONG, place);
        for (int i = place; i < place + n; i++) {
            given.add(packed[i]);
        }
        counts[9]++;
        return place + n;
    }

    private int readCoded(int place, int c, int n) {
        need(place, 2);
        int m = packed[place] * 256 + packed[place + 1] + 1;
        int next = place + 2;
        if (c >= 192) {
            need(next, 1);
            int properties = packed[next];
            boolean some = properties <= 224 && properties % 9 + properties / 9 % 5 <= 3;
            must(some, IntervalPacker.FORM, next);
            lc = properties % 9;
            lp = properties / 9 % 5;
            pb = properties / 45;
            next++;
        }
        if (c >= 160) {
            chances.clear();
            state = 0;
            java.util.Arrays.fill(r, 1);
        }
        need(next, m);
        must(given.size() + n <= 400, IntervalPacker.LONG, next);
        readData(next, m, given.size() + n);
        counts[8]++;
        return next + m;
    }

    private void wrongData() {
        throw new Fault(IntervalPacker.DATA, dataStart);
    }

    private void readData(int place, int m, int until) {
        dataStart = place;
        if (m < 5 || packed[place] != 0) {
            wrongData();
        }
        codeNow = new BigInteger(hex(place + 1, place + 5), 16);
        rangeNow = 0xFFFFFFFFL;
        data = place + 5;
        dataEnd = place + m;
        while (given.size() < until) {
            step(until);
        }
        shift();
        if (codeNow.signum() != 0 || data != dataEnd) {
            wrongData();
        }
    }

    private void shift() {
        if (rangeNow < 0x1000000L) {
            if (data == dataEnd) {
                wrongData();
            }
            rangeNow *= 256;
            codeNow = codeNow.multiply(BigInteger.valueOf(256)).add(BigInteger.valueOf(packed[data]));
            data++;
        }
    }

    private boolean isLess(long bound) {
        return codeNow.compareTo(BigInteger.valueOf(bound)) < 0;
    }

    private void wasTaken() {
        counts[0]++;
        if (counts[0] == watched) {
            range = rangeNow;
            code = codeNow.longValue();
        }
    }

    private int bit(String name) {
        shift();
        int p = chances.getOrDefault(name, 1024);
        long b = rangeNow / 2048 * p;
        int bit = isLess(b) ? 0 : 1;
        if (bit == 0) {
            rangeNow = b;
            p += (2048 - p) / 32;
        } else {
            rangeNow -= b;
            codeNow = codeNow.subtract(BigInteger.valueOf(b));
            p -= p / 32;
        }
        chances.put(name, p);
        wasTaken();
        return bit;
    }

    private int evenBit() {
        shift();
        rangeNow /= 2;
        int bit = isLess(rangeNow) ? 0 : 1;
        if (bit == 1) {
            codeNow = codeNow.subtract(BigInteger.valueOf(rangeNow));
        }
        wasTaken();
        return bit;
    }

    private int tree(String name, int k) {
        int v = 1;
        for (int i = 0; i < k; i++) {
            v = 2 * v + bit(name + " " + v);
        }
        return v - (1 << k);
    }

    private int backwards(String name, int k) {
        int v = 1;
        int number = 0;
        for (int i = 0; i < k; i++) {
            int bit = bit(name + " " + v);
            number += bit << i;
            v = 2 * v + bit;
        }
        return number;
    }

    private int back(long distance) {
        return given.get(given.size() - (int) distance);
    }

    private int size() {
        return given.size() - dictionary;
    }

    private void step(int until) {
        int q = size() % (1 << pb);
        String at = state + " " + q;
        if (bit("MATCH " + at) == 0) {
            given.add(literal());
            state = state < 4 ? 0 : state < 10 ? state - 3 : state - 6;
            counts[1]++;
            return;
        }
        int kind = 2;
        int length = 1;
        if (bit("AGAIN " + state) == 0) {
            length = length("COPY", q);
            long distance = distance(length);
            bring(3, distance);
            state = state < 7 ? 7 : 10;
        } else {
            int k = 0;
            boolean isSingle = false;
            if (bit("ZERO " + state) == 0) {
                isSingle = bit("LONG " + at) == 0;
            } else if (bit("ONE " + state) == 0) {
                k = 1;
            } else {
                k = 2 + bit("TWO " + state);
            }
            kind = isSingle ? 3 : 4 + k;
            bring(k, r[k]);
            length = isSingle ? 1 : length("REPEATED", q);
            state = state >= 7 ? 11 : isSingle ? 9 : 8;
        }
        if (r[0] > size() || given.size() + length > until) {
            wrongData();
        }
        for (int i = 0; i < length; i++) {
            given.add(back(r[0]));
        }
        counts[kind]++;
    }

    private void bring(int k, long first) {
        for (int i = k; i > 0; i--) {
            r[i] = r[i - 1];
        }
        r[0] = first;
    }

    private int literal() {
        int last = size() == 0 ? 0 : back(1);
        String trees = "LITERAL " + size() % (1 << lp) + " " + last / (1 << (8 - lc)) + " ";
        int v = 1;
        int b = state < 7 ? -1 : back(r[0]);
        for (int i = 7; i >= 0; i--) {
            // all bits so far are those of B when the number of them is the same
            boolean alike = b >= 0 && v == (256 + b) >> (i + 1);
            v = 2 * v + bit(trees + (alike ? 1 + (b >> i) % 2 : 0) + " " + v);
        }
        return v - 256;
    }

    private int length(String whose, int q) {
        if (bit(whose + " first") == 0) {
            return tree(whose + " short " + q, 3) + 2;
        }
        if (bit(whose + " second") == 0) {
            return tree(whose + " middle " + q, 3) + 10;
        }
        return tree(whose + " great", 8) + 18;
    }

    private long distance(int length) {
        int x = tree("SLOT " + Math.min(length, 5), 6);
        if (x < 4) {
            return x + 1;
        }
        int k = x / 2 - 1;
        long y = (1L << k) * (x % 2 == 0 ? 2 : 3);
        if (x < 14) {
            return y + 1 + backwards("NEAR " + x, k);
        }
        long high = 0;
        for (int i = 0; i < k - 4; i++) {
            high = 2 * high + evenBit();
        }
        return y + 1 + 16 * high + backwards("FAR", 4);
    }
}
