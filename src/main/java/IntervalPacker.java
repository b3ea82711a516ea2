import java.util.Arrays;

/**
 * Packs bytes by matches and a coder of intervals into a container with sums, and unpacks such
 * containers: what is not one is refused with the first fault and its place.
 */
public final class IntervalPacker {
    public static final int NONE = -1;
    public static final int CUT = -2;
    public static final int FORM = -3;
    public static final int SUMS = -4;
    public static final int LONG = -5;
    public static final int DATA = -6;

    private static final int PLAIN_MOST = 400;
    private static final int PACKED_MOST = 640;
    private static final int COPIED_MOST = 300;

    private static final int[] MAGIC = {0xFD, 0x37, 0x7A, 0x58, 0x5A, 0x00};
    private static final int FLAGS_PLACE = 6;
    private static final int END_SIZE = 12;
    private static final int END_FIRST = 0x59;
    private static final int END_SECOND = 0x5A;
    private static final int FILTER = 33;
    private static final int DICTIONARY_SIZE_MOST = 40;
    // The smallest block has a head of 12 bytes, the end of the chunks and three bytes that fill up.
    private static final int BLOCKS_MOST = PACKED_MOST / 16;

    private static final long ONES4 = 0xFFFFFFFFL;
    private static final long ONES8 = -1L;
    private static final long TURN4 = 0xEDB88320L;
    private static final long TURN8 = 0xC96C5795D7870F42L;

    private static final int CHUNKS_END = 0;
    private static final int PLAIN_EMPTYING = 1;
    private static final int PLAIN_KEEPING = 2;
    private static final int CODED = 128;
    private static final int CODED_ANEW = 160;
    private static final int CODED_PROPERTIES = 192;
    private static final int CODED_EMPTYING = 224;

    // The sorts of steps bear the numbers under which count() tells them.
    private static final int BITS = 0;
    private static final int LITERAL = 1;
    private static final int COPY = 2;
    private static final int SINGLE = 3;
    private static final int REPEATED = 4;
    private static final int CODED_CHUNKS = 8;
    private static final int PLAIN_CHUNKS = 9;
    private static final int BLOCKS = 10;
    private static final int COUNTS = 11;

    private static final int LENGTH_MOST = 273;
    private static final int DATA_LEAST = 5;
    private static final int NEAR = 128;

    private static final long RANGE_FULL = 0xFFFFFFFFL;
    private static final long RANGE_LOW = 0x1000000L;
    private static final int CHANCE_BITS = 11;
    private static final int CHANCE_FULL = 2048;
    private static final int CHANCE_START = 1024;
    private static final int CHANCE_STEP = 5;

    // Where the probabilities of each sort begin in their one row.
    private static final int STATES = 12;
    private static final int MATCH_AT = 0;
    private static final int LONG_AT = MATCH_AT + STATES * 16;
    private static final int AGAIN_AT = LONG_AT + STATES * 16;
    private static final int ZERO_AT = AGAIN_AT + STATES;
    private static final int ONE_AT = ZERO_AT + STATES;
    private static final int TWO_AT = ONE_AT + STATES;
    private static final int SHORT_TREES = 2;
    private static final int MIDDLE_TREES = SHORT_TREES + 16 * 8;
    private static final int GREAT_TREE = MIDDLE_TREES + 16 * 8;
    private static final int LENGTH_CHANCES = GREAT_TREE + 256;
    private static final int COPY_LENGTH_AT = TWO_AT + STATES;
    private static final int REPEATED_LENGTH_AT = COPY_LENGTH_AT + LENGTH_CHANCES;
    private static final int SLOT_AT = REPEATED_LENGTH_AT + LENGTH_CHANCES;
    private static final int MIDDLE_DISTANCE_AT = SLOT_AT + 4 * 64;
    private static final int FAR_DISTANCE_AT = MIDDLE_DISTANCE_AT + 10 * 32;
    private static final int LITERAL_AT = FAR_DISTANCE_AT + 16;
    private static final int LITERAL_TREES = 3 * 256;
    private static final int CHANCES = LITERAL_AT + 8 * LITERAL_TREES;

    private final Row plain;
    private final Row packed;
    private final BitSource source;
    private final Unpacking reader;
    private final Packing writer;

    public IntervalPacker() {
        int[] chances = new int[CHANCES];
        plain = new Row(PLAIN_MOST);
        packed = new Row(PACKED_MOST);
        source = new BitSource(chances);
        Model model = new Model(chances, source);
        reader = new Unpacking(model, source);
        writer = new Packing(model, new BitSink(chances));
    }

    public int feed(long bytes, int n, boolean packed) {
        Row row = rowOf(packed);
        if (n < 1 || n > 8 || !row.hasRoom(n)) {
            return NONE;
        }
        for (int i = n - 1; i >= 0; i--) {
            row.append((int) (bytes >>> (8 * i)) & 255);
        }
        return row.size;
    }

    public int copy(int distance, int n) {
        if (n < 1 || n > COPIED_MOST || distance < 1 || distance > plain.size || !plain.hasRoom(n)) {
            return NONE;
        }
        plain.repeat(distance, n);
        return plain.size;
    }

    public int cut(int n, boolean packed) {
        Row row = rowOf(packed);
        if (n < 0 || n > row.size) {
            return NONE;
        }
        int gone = row.size - n;
        row.size = n;
        return gone;
    }

    public int change(int i, int b) {
        int before = packed.byteAt(i);
        if (before == NONE || b < 0 || b > 255) {
            return NONE;
        }
        packed.bytes[i] = b;
        return before;
    }

    public int at(int i, boolean packed) {
        return rowOf(packed).byteAt(i);
    }

    public int pack(int sort, int properties, int piece) {
        if (!isSort(sort) || !areProperties(properties) || piece < 1 || piece > PLAIN_MOST) {
            return FORM;
        }
        writer.begin(plain, sort, properties);
        if (plain.size > 0) {
            writer.writeHead();
            for (int from = 0; from < plain.size; from += piece) {
                writer.writePiece(from, Math.min(from + piece, plain.size));
            }
            writer.closeBlock();
        }
        writer.writeIndex();
        writer.writeEnd();
        if (writer.draft.overfull) {
            return LONG;
        }
        packed.become(writer.draft);
        return packed.size;
    }

    public int unpack() {
        reader.begin(packed);
        reader.readStart();
        for (int i = 0; i < PACKED_MOST && reader.comesBlock(); i++) {
            reader.readBlock();
        }
        reader.readIndex();
        reader.readEnd();
        if (!reader.cursor.isSound()) {
            return reader.cursor.fault;
        }
        plain.become(reader.given);
        return plain.size;
    }

    public int where() {
        return reader.cursor.place;
    }

    public boolean watch(int k) {
        if (k < 1) {
            return false;
        }
        source.watched = k;
        return true;
    }

    public long range() {
        return source.keptRange;
    }

    public long code() {
        return source.keptCode;
    }

    public int count(int which) {
        if (which < 0 || which >= COUNTS) {
            return NONE;
        }
        return which == BITS ? source.taken : reader.counts[which];
    }

    public long sum(boolean long8) {
        return long8 ? sumEight(plain.bytes, 0, plain.size) : sumFour(plain.bytes, 0, plain.size);
    }

    private Row rowOf(boolean isPacked) {
        return isPacked ? packed : plain;
    }

    private static boolean isSort(int sort) {
        return sort == 0 || sort == 1 || sort == 4;
    }

    private static int checkSize(int sort) {
        return sort == 4 ? 8 : sort == 1 ? 4 : 0;
    }

    private static boolean areProperties(int properties) {
        if (properties < 0 || properties >= 5 * 5 * 9) {
            return false;
        }
        return properties % 9 + properties / 9 % 5 <= 3;
    }

    private static long sumFour(int[] bytes, int from, int to) {
        return sumBy(bytes, from, to, ONES4, TURN4);
    }

    private static long sumEight(int[] bytes, int from, int to) {
        return sumBy(bytes, from, to, ONES8, TURN8);
    }

    private static long sumBy(int[] bytes, int from, int to, long ones, long turn) {
        long sum = ones;
        for (int i = from; i < to; i++) {
            sum ^= bytes[i];
            for (int bit = 0; bit < 8; bit++) {
                sum = (sum & 1) == 1 ? (sum >>> 1) ^ turn : sum >>> 1;
            }
        }
        return sum ^ ones;
    }

    /** Bytes in a row, never more than it was made for. */
    private static final class Row {
        final int[] bytes;
        int size;
        boolean overfull;

        Row(int most) {
            bytes = new int[most];
        }

        void clear() {
            size = 0;
            overfull = false;
        }

        boolean hasRoom(int n) {
            return n <= bytes.length - size;
        }

        void append(int b) {
            if (size >= bytes.length) {
                overfull = true;
                return;
            }
            bytes[size] = b;
            size++;
        }

        void appendAll(int[] from, int start, int n) {
            for (int i = start; i < start + n; i++) {
                append(from[i]);
            }
        }

        void appendLowFirst(long number, int n) {
            for (int i = 0; i < n; i++) {
                append((int) (number >>> (8 * i)) & 255);
            }
        }

        void repeat(long distance, int n) {
            for (int i = 0; i < n; i++) {
                append(byteBack(size, distance));
            }
        }

        int byteAt(int i) {
            return i >= 0 && i < size ? bytes[i] : NONE;
        }

        /** The byte so far before a place; 0 if none is there. */
        int byteBack(int place, long distance) {
            if (distance < 1 || distance > place || place > bytes.length) {
                return 0;
            }
            return bytes[place - (int) distance];
        }

        void become(Row other) {
            size = Math.min(other.size, bytes.length);
            System.arraycopy(other.bytes, 0, bytes, 0, size);
        }
    }

    /** The place up to which packed bytes were read, and the first fault. */
    private static final class Cursor {
        private static final int SOUND = 0;

        int[] bytes = new int[0];
        int size;
        int end;
        int next;
        int fault;
        int place = NONE;

        void begin(Row row) {
            bytes = row.bytes;
            size = row.size;
            end = size;
            next = 0;
            fault = SOUND;
            place = NONE;
        }

        boolean isSound() {
            return fault == SOUND;
        }

        void fail(int what, int at) {
            if (fault == SOUND) {
                fault = what;
                place = at;
            }
        }

        /** Items of a head end before its sum: what would reach into that is FORM, not CUT. */
        void narrow(int limit) {
            end = Math.min(limit, size);
        }

        void widen() {
            end = size;
        }

        boolean has(int n) {
            if (fault == SOUND && end - next < n) {
                fail(end == size ? CUT : FORM, next);
            }
            return fault == SOUND;
        }

        void expectByte(int due) {
            expectWithin(due, due);
        }

        void expectWithin(int least, int most) {
            if (!has(1)) {
                return;
            }
            if (bytes[next] < least || bytes[next] > most) {
                fail(FORM, next);
                return;
            }
            next++;
        }

        /** Fills up to a multiple of four, counted from a start. */
        void expectFilling(int start) {
            for (int i = 0; i < 3 && (next - start) % 4 != 0; i++) {
                expectByte(0);
            }
        }

        long lowFirst(int at, int n) {
            long number = 0;
            for (int i = n - 1; i >= 0; i--) {
                number = (number << 8) + bytes[at + i];
            }
            return number;
        }

        void expectSum(int n, long due) {
            if (!has(n)) {
                return;
            }
            if (lowFirst(next, n) != due) {
                fail(SUMS, next);
                return;
            }
            next += n;
        }

        /** Two bytes, the highest first. */
        int readTwo() {
            if (!has(2)) {
                return 0;
            }
            next += 2;
            return bytes[next - 2] * 256 + bytes[next - 1];
        }

        long readNumber() {
            long number = 0;
            for (int i = 0; i < 9 && has(i + 1); i++) {
                int b = bytes[next + i];
                number |= (long) (b & 127) << (7 * i);
                if (b == 0 && i > 0) {
                    break;
                }
                if (b < 128) {
                    next += i + 1;
                    return number;
                }
            }
            fail(FORM, next);
            return NONE;
        }

        void expectNumber(long due) {
            int start = next;
            if (readNumber() != due) {
                fail(FORM, start);
            }
        }
    }

    /** Bits one after the other: taken from data or written to them, the model's way is the same. */
    private abstract static class BitLine {
        final int[] chances;
        long range;
        boolean broken;

        BitLine(int[] chances) {
            this.chances = chances;
        }

        /** Who takes bits does not look at the wanted one. */
        abstract int codeBit(int chance, int wanted);

        abstract int codeEvenBit(int wanted);

        void learn(int chance, int bit) {
            int p = chances[chance];
            chances[chance] = bit == 0 ? p + ((CHANCE_FULL - p) >> CHANCE_STEP) : p - (p >> CHANCE_STEP);
        }
    }

    private static final class BitSource extends BitLine {
        private int[] data;
        private int next;
        private int end;
        private long codeNow;
        // Once CODE is not below RANGE it never is again, and may outgrow a long: then each bit is 1.
        private boolean beyond;
        int taken;
        int watched;
        long keptRange = NONE;
        long keptCode = NONE;

        BitSource(int[] chances) {
            super(chances);
            data = chances;
        }

        void forget() {
            taken = 0;
            keptRange = NONE;
            keptCode = NONE;
        }

        /** The caller has looked at the places: the bytes from .. to - 1 are there. */
        void begin(int[] bytes, int from, int to) {
            data = bytes;
            next = from + DATA_LEAST;
            end = to;
            range = RANGE_FULL;
            codeNow = 0;
            broken = to - from < DATA_LEAST || bytes[from] != 0;
            for (int i = 1; i < DATA_LEAST && !broken; i++) {
                codeNow = (codeNow << 8) + bytes[from + i];
            }
            beyond = codeNow >= range;
        }

        private void shift() {
            if (broken || range >= RANGE_LOW) {
                return;
            }
            if (next >= end) {
                broken = true;
                return;
            }
            range <<= 8;
            codeNow = (codeNow << 8) + data[next];
            next++;
        }

        int codeBit(int chance, int wanted) {
            shift();
            if (broken) {
                return 0;
            }
            long bound = (range >>> CHANCE_BITS) * chances[chance];
            int bit = beyond || codeNow >= bound ? 1 : 0;
            if (bit == 0) {
                range = bound;
            } else {
                range -= bound;
                codeNow -= bound;
            }
            learn(chance, bit);
            keep();
            return bit;
        }

        int codeEvenBit(int wanted) {
            shift();
            if (broken) {
                return 0;
            }
            range >>>= 1;
            int bit = beyond || codeNow >= range ? 1 : 0;
            if (bit == 1) {
                codeNow -= range;
            }
            beyond = beyond || codeNow >= range;
            keep();
            return bit;
        }

        private void keep() {
            taken++;
            if (taken == watched) {
                keptRange = range;
                keptCode = codeNow;
            }
        }

        boolean endsWell() {
            shift();
            return !broken && !beyond && codeNow == 0 && next == end;
        }
    }

    private static final class BitSink extends BitLine {
        // The number LOW, the highest byte first.
        final int[] data = new int[PLAIN_MOST];
        int size;
        private int most;

        BitSink(int[] chances) {
            super(chances);
        }

        /** Data of more bytes than these are of no use: the sink is broken then. */
        void begin(int mostBytes) {
            most = Math.min(mostBytes, data.length);
            broken = most < DATA_LEAST;
            size = DATA_LEAST;
            range = RANGE_FULL;
            Arrays.fill(data, 0);
        }

        private void shift() {
            if (broken || range >= RANGE_LOW) {
                return;
            }
            if (size >= most) {
                broken = true;
                return;
            }
            range <<= 8;
            size++;
        }

        private void raise(long number) {
            long carry = number;
            for (int i = size - 1; i >= 0 && carry != 0; i--) {
                carry += data[i];
                data[i] = (int) carry & 255;
                carry >>>= 8;
            }
        }

        int codeBit(int chance, int wanted) {
            shift();
            if (broken) {
                return wanted;
            }
            long bound = (range >>> CHANCE_BITS) * chances[chance];
            if (wanted == 0) {
                range = bound;
            } else {
                raise(bound);
                range -= bound;
            }
            learn(chance, wanted);
            return wanted;
        }

        int codeEvenBit(int wanted) {
            shift();
            if (broken) {
                return wanted;
            }
            range >>>= 1;
            if (wanted == 1) {
                raise(range);
            }
            return wanted;
        }

        void finish() {
            shift();
        }
    }

    /**
     * The probabilities, the state and the distances, and the way of each step through them. The
     * fields of a step tell what is wanted before it, and afterwards what it was.
     */
    private static final class Model {
        private final int[] chances;
        private final long[] distances = new long[4];
        private int state;
        private int lc;
        private int lp;
        private int pb;
        private BitLine line;
        int kind;
        int octet;
        int length;
        long distance;

        Model(int[] chances, BitLine line) {
            this.chances = chances;
            this.line = line;
        }

        void setProperties(int properties) {
            lc = properties % 9;
            lp = properties / 9 % 5;
            pb = properties / 45;
        }

        void beginAnew() {
            Arrays.fill(chances, 0, LITERAL_AT + (LITERAL_TREES << (lc + lp)), CHANCE_START);
            Arrays.fill(distances, 1);
            state = 0;
        }

        void useLine(BitLine other) {
            line = other;
        }

        long distanceOf(int k) {
            return distances[k];
        }

        /** A step at P, behind a last byte, with the byte that is r0 back. */
        void step(int p, int last, int match) {
            int q = p & ((1 << pb) - 1);
            kind = codeKind(q);
            if (kind == LITERAL) {
                int trees = ((p & ((1 << lp) - 1)) << lc) + (last >>> (8 - lc));
                octet = codeLiteral(LITERAL_AT + LITERAL_TREES * trees, match);
                length = 1;
                state = state < 4 ? 0 : state < 10 ? state - 3 : state - 6;
            } else if (kind == COPY) {
                length = codeLength(COPY_LENGTH_AT, q);
                distance = codeDistance();
                bringForward(3, distance);
                state = state < 7 ? 7 : 10;
            } else if (kind == SINGLE) {
                length = 1;
                state = state < 7 ? 9 : 11;
            } else {
                bringForward(kind - REPEATED, distances[kind - REPEATED]);
                length = codeLength(REPEATED_LENGTH_AT, q);
                state = state < 7 ? 8 : 11;
            }
        }

        private void bringForward(int k, long first) {
            for (int i = k; i > 0; i--) {
                distances[i] = distances[i - 1];
            }
            distances[0] = first;
        }

        private int codeKind(int q) {
            if (line.codeBit(MATCH_AT + state * 16 + q, kind == LITERAL ? 0 : 1) == 0) {
                return LITERAL;
            }
            if (line.codeBit(AGAIN_AT + state, kind == COPY ? 0 : 1) == 0) {
                return COPY;
            }
            if (line.codeBit(ZERO_AT + state, kind > REPEATED ? 1 : 0) == 0) {
                int more = line.codeBit(LONG_AT + state * 16 + q, kind == REPEATED ? 1 : 0);
                return more == 0 ? SINGLE : REPEATED;
            }
            if (line.codeBit(ONE_AT + state, kind > REPEATED + 1 ? 1 : 0) == 0) {
                return REPEATED + 1;
            }
            return REPEATED + 2 + line.codeBit(TWO_AT + state, kind > REPEATED + 2 ? 1 : 0);
        }

        private int codeLiteral(int trees, int match) {
            boolean alike = state >= 7;
            int v = 1;
            for (int i = 7; i >= 0; i--) {
                int same = (match >>> i) & 1;
                int tree = alike ? 1 + same : 0;
                int bit = line.codeBit(trees + tree * 256 + v, (octet >>> i) & 1);
                alike = alike && bit == same;
                v = 2 * v + bit;
            }
            return v - 256;
        }

        private int codeLength(int lengths, int q) {
            if (line.codeBit(lengths, length < 10 ? 0 : 1) == 0) {
                return 2 + codeTree(lengths + SHORT_TREES + 8 * q, 3, length - 2);
            }
            if (line.codeBit(lengths + 1, length < 18 ? 0 : 1) == 0) {
                return 10 + codeTree(lengths + MIDDLE_TREES + 8 * q, 3, length - 10);
            }
            return 18 + codeTree(lengths + GREAT_TREE, 8, length - 18);
        }

        private long codeDistance() {
            int x = codeTree(SLOT_AT + 64 * Math.min(length - 2, 3), 6, slotOf(distance));
            if (x < 4) {
                return x + 1;
            }
            int k = x / 2 - 1;
            long y = (2L + x % 2) << k;
            long rest = distance - 1 - y;
            if (x < 14) {
                return y + 1 + codeTreeBackwards(MIDDLE_DISTANCE_AT + 32 * (x - 4), k, (int) rest);
            }
            long high = 0;
            for (int i = k - 1; i >= 4; i--) {
                high = 2 * high + line.codeEvenBit((int) (rest >>> i) & 1);
            }
            return y + 1 + 16 * high + codeTreeBackwards(FAR_DISTANCE_AT, 4, (int) rest);
        }

        private static int slotOf(long wanted) {
            long less = wanted - 1;
            if (less < 4) {
                return (int) less;
            }
            int highest = 63 - Long.numberOfLeadingZeros(less);
            return 2 * highest + ((int) (less >>> (highest - 1)) & 1);
        }

        private int codeTree(int tree, int k, int wanted) {
            int v = 1;
            for (int i = k - 1; i >= 0; i--) {
                v = 2 * v + line.codeBit(tree + v, (wanted >>> i) & 1);
            }
            return v - (1 << k);
        }

        private int codeTreeBackwards(int tree, int k, int wanted) {
            int v = 1;
            int number = 0;
            for (int i = 0; i < k; i++) {
                int bit = line.codeBit(tree + v, (wanted >>> i) & 1);
                v = 2 * v + bit;
                number += bit << i;
            }
            return number;
        }
    }

    /** Reads a container, item by item; behind a fault every step does nothing. */
    private static final class Unpacking {
        final Row given = new Row(PLAIN_MOST);
        final Cursor cursor = new Cursor();
        final int[] counts = new int[COUNTS];
        private final Model model;
        private final BitSource source;
        private final long[] sizes = new long[BLOCKS_MOST];
        private final long[] gifts = new long[BLOCKS_MOST];
        private int sort;
        private int blockPlace;
        private int givenBefore;
        private long saidSize;
        private long saidGift;
        private int dictionary;
        private boolean isFirstChunk;
        private boolean lacksProperties;
        private int control;
        private int gift;
        private int dataSize;
        private int indexSize;

        Unpacking(Model model, BitSource source) {
            this.model = model;
            this.source = source;
        }

        void begin(Row packed) {
            cursor.begin(packed);
            given.clear();
            Arrays.fill(counts, 0);
            source.forget();
        }

        void readStart() {
            if (!cursor.has(MAGIC.length)) {
                return;
            }
            for (int i = 0; i < MAGIC.length; i++) {
                if (cursor.bytes[i] != MAGIC[i]) {
                    cursor.fail(FORM, 0);
                    return;
                }
            }
            cursor.next = FLAGS_PLACE;
            if (!cursor.has(2)) {
                return;
            }
            sort = cursor.bytes[FLAGS_PLACE + 1];
            if (cursor.bytes[FLAGS_PLACE] != 0 || !isSort(sort)) {
                cursor.fail(FORM, FLAGS_PLACE);
                return;
            }
            cursor.next += 2;
            cursor.expectSum(4, sumFour(cursor.bytes, FLAGS_PLACE, FLAGS_PLACE + 2));
        }

        boolean comesBlock() {
            return cursor.has(1) && cursor.bytes[cursor.next] != 0;
        }

        void readBlock() {
            blockPlace = cursor.next;
            givenBefore = given.size;
            isFirstChunk = true;
            lacksProperties = true;
            readHead();
            int chunksPlace = cursor.next;
            for (int i = 0; i < PACKED_MOST && cursor.isSound(); i++) {
                readChunkHead();
                if (control == CHUNKS_END || !cursor.isSound()) {
                    break;
                }
                if (control >= CODED) {
                    giveCoded();
                } else {
                    givePlain();
                }
            }
            closeBlock(chunksPlace);
        }

        private void readHead() {
            int size = 4 * (cursor.bytes[blockPlace] + 1);
            if (!cursor.has(size)) {
                return;
            }
            int sumPlace = blockPlace + size - 4;
            if (cursor.lowFirst(sumPlace, 4) != sumFour(cursor.bytes, blockPlace, sumPlace)) {
                cursor.fail(SUMS, sumPlace);
                return;
            }
            cursor.narrow(sumPlace);
            cursor.next++;
            readHeadNumbers();
            cursor.expectByte(FILTER);
            cursor.expectByte(1);
            cursor.expectWithin(0, DICTIONARY_SIZE_MOST);
            for (int i = cursor.next; i < sumPlace; i++) {
                cursor.expectByte(0);
            }
            cursor.widen();
            cursor.next = sumPlace + 4;
        }

        private void readHeadNumbers() {
            saidSize = NONE;
            saidGift = NONE;
            int flags = cursor.has(1) ? cursor.bytes[cursor.next] : 0;
            if (flags % 64 != 0) {
                cursor.fail(FORM, cursor.next);
                return;
            }
            cursor.next++;
            int place = cursor.next;
            if ((flags & 64) != 0) {
                saidSize = cursor.readNumber();
            }
            if (saidSize == 0) {
                cursor.fail(FORM, place);
            }
            if ((flags & 128) != 0) {
                saidGift = cursor.readNumber();
            }
        }

        private void readChunkHead() {
            if (!cursor.has(1)) {
                return;
            }
            control = cursor.bytes[cursor.next];
            if (!isAllowed()) {
                cursor.fail(FORM, cursor.next);
                return;
            }
            cursor.next++;
            if (control == CHUNKS_END) {
                return;
            }
            isFirstChunk = false;
            if (empties()) {
                dictionary = given.size;
                lacksProperties = true;
            }
            gift = cursor.readTwo() + 1;
            if (control >= CODED) {
                gift += (control & 31) << 16;
                dataSize = cursor.readTwo() + 1;
                readProperties();
            }
        }

        private boolean empties() {
            return control == PLAIN_EMPTYING || control >= CODED_EMPTYING;
        }

        private boolean isAllowed() {
            if (control == CHUNKS_END) {
                return true;
            }
            if (control > PLAIN_KEEPING && control < CODED || isFirstChunk && !empties()) {
                return false;
            }
            return control < CODED || control >= CODED_PROPERTIES || !lacksProperties;
        }

        private void readProperties() {
            if (control >= CODED_PROPERTIES && cursor.has(1)) {
                int properties = cursor.bytes[cursor.next];
                if (!areProperties(properties)) {
                    cursor.fail(FORM, cursor.next);
                    return;
                }
                cursor.next++;
                lacksProperties = false;
                model.setProperties(properties);
            }
            if (control >= CODED_ANEW && cursor.isSound()) {
                model.beginAnew();
            }
        }

        private boolean hasBytesAndRoom(int n) {
            if (cursor.has(n) && !given.hasRoom(gift)) {
                cursor.fail(LONG, cursor.next);
            }
            return cursor.isSound();
        }

        private void givePlain() {
            if (!hasBytesAndRoom(gift)) {
                return;
            }
            given.appendAll(cursor.bytes, cursor.next, gift);
            cursor.next += gift;
            counts[PLAIN_CHUNKS]++;
        }

        private void giveCoded() {
            if (!hasBytesAndRoom(dataSize)) {
                return;
            }
            int until = given.size + gift;
            source.begin(cursor.bytes, cursor.next, cursor.next + dataSize);
            model.useLine(source);
            for (int i = 0; i < gift && given.size < until; i++) {
                int p = given.size - dictionary;
                int last = p > 0 ? given.byteBack(given.size, 1) : 0;
                model.step(p, last, given.byteBack(given.size, model.distanceOf(0)));
                if (source.broken || !giveStep(p, until)) {
                    cursor.fail(DATA, cursor.next);
                    return;
                }
                counts[model.kind]++;
            }
            if (!source.endsWell()) {
                cursor.fail(DATA, cursor.next);
                return;
            }
            cursor.next += dataSize;
            counts[CODED_CHUNKS]++;
        }

        private boolean giveStep(int p, int until) {
            if (model.kind == LITERAL) {
                given.append(model.octet);
                return true;
            }
            if (model.distanceOf(0) > p || model.length > until - given.size) {
                return false;
            }
            given.repeat(model.distanceOf(0), model.length);
            return true;
        }

        private void closeBlock(int chunksPlace) {
            if (!cursor.isSound()) {
                return;
            }
            int size = cursor.next - chunksPlace;
            int gives = given.size - givenBefore;
            if (saidSize != NONE && saidSize != size || saidGift != NONE && saidGift != gives) {
                cursor.fail(DATA, blockPlace);
                return;
            }
            long blockSize = cursor.next - blockPlace + checkSize(sort);
            cursor.expectFilling(blockPlace);
            if (sort == 1) {
                cursor.expectSum(4, sumFour(given.bytes, givenBefore, given.size));
            } else if (sort == 4) {
                cursor.expectSum(8, sumEight(given.bytes, givenBefore, given.size));
            }
            int blocks = counts[BLOCKS];
            if (cursor.isSound() && blocks < BLOCKS_MOST) {
                sizes[blocks] = blockSize;
                gifts[blocks] = gives;
                counts[BLOCKS]++;
            }
        }

        void readIndex() {
            if (!cursor.isSound()) {
                return;
            }
            int start = cursor.next;
            cursor.expectByte(0);
            cursor.expectNumber(counts[BLOCKS]);
            for (int i = 0; i < counts[BLOCKS] && cursor.isSound(); i++) {
                cursor.expectNumber(sizes[i]);
                cursor.expectNumber(gifts[i]);
            }
            cursor.expectFilling(start);
            cursor.expectSum(4, sumFour(cursor.bytes, start, cursor.next));
            indexSize = cursor.next - start;
        }

        void readEnd() {
            if (!cursor.has(END_SIZE)) {
                return;
            }
            int place = cursor.next;
            if (cursor.lowFirst(place, 4) != sumFour(cursor.bytes, place + 4, place + 10)) {
                cursor.fail(SUMS, place);
                return;
            }
            boolean numbersFit = cursor.lowFirst(place + 4, 4) == indexSize / 4 - 1
                    && cursor.bytes[place + 8] == 0 && cursor.bytes[place + 9] == sort;
            if (!numbersFit || cursor.bytes[place + 10] != END_FIRST || cursor.bytes[place + 11] != END_SECOND) {
                cursor.fail(FORM, place);
                return;
            }
            cursor.next += END_SIZE;
            if (cursor.next < cursor.size) {
                cursor.fail(FORM, cursor.next);
            }
        }
    }

    /** Writes a container into a draft, so that what is too long leaves the packed bytes alone. */
    private static final class Packing {
        final Row draft = new Row(PACKED_MOST);
        private final Model model;
        private final BitSink sink;
        private final int[] end = new int[6];
        private Row plain;
        private int sort;
        private int properties;
        private int blockPlace;
        private long blockSize;
        private int indexSize;
        private boolean isFirstChunk;
        private boolean isFirstCoded;
        private boolean isBehindPlain;
        private int matchLength;
        private int matchDistance;
        private int againLength;
        private int again;

        Packing(Model model, BitSink sink) {
            this.model = model;
            this.sink = sink;
            plain = draft;
        }

        void begin(Row row, int checkSort, int modelProperties) {
            plain = row;
            sort = checkSort;
            properties = modelProperties;
            draft.clear();
            draft.appendAll(MAGIC, 0, MAGIC.length);
            draft.append(0);
            draft.append(sort);
            draft.appendLowFirst(sumFour(draft.bytes, FLAGS_PLACE, FLAGS_PLACE + 2), 4);
        }

        void writeHead() {
            blockPlace = draft.size;
            isFirstChunk = true;
            isFirstCoded = true;
            isBehindPlain = true;
            draft.append(2);
            draft.append(0);
            draft.append(FILTER);
            draft.append(1);
            draft.appendLowFirst(0, 4);
            draft.appendLowFirst(sumFour(draft.bytes, blockPlace, draft.size), 4);
        }

        void writePiece(int from, int to) {
            if (draft.overfull) {
                return;
            }
            if (encode(from, to)) {
                writeCoded(to - from);
            } else {
                writePlain(from, to - from);
            }
            isFirstChunk = false;
        }

        private void writePlain(int from, int n) {
            draft.append(isFirstChunk ? PLAIN_EMPTYING : PLAIN_KEEPING);
            appendTwo(n - 1);
            draft.appendAll(plain.bytes, from, n);
            isBehindPlain = true;
        }

        private void writeCoded(int n) {
            int control = isFirstChunk ? CODED_EMPTYING
                    : isFirstCoded ? CODED_PROPERTIES
                    : isBehindPlain ? CODED_ANEW : CODED;
            draft.append(control);
            appendTwo(n - 1);
            appendTwo(sink.size - 1);
            if (control >= CODED_PROPERTIES) {
                draft.append(properties);
            }
            draft.appendAll(sink.data, 0, sink.size);
            isFirstCoded = false;
            isBehindPlain = false;
        }

        private void appendTwo(int number) {
            draft.append(number >>> 8);
            draft.append(number & 255);
        }

        /** Whether a piece has data with less bytes than it has itself. */
        private boolean encode(int from, int to) {
            sink.begin(to - from - 1);
            if (sink.broken) {
                return false;
            }
            if (isBehindPlain) {
                model.setProperties(properties);
                model.beginAnew();
            }
            model.useLine(sink);
            for (int place = from; place < to && !sink.broken; place += Math.max(1, model.length)) {
                choose(place, Math.min(to - place, LENGTH_MOST));
                int match = plain.byteBack(place, model.distanceOf(0));
                model.step(place, plain.byteBack(place, 1), match);
            }
            sink.finish();
            return !sink.broken;
        }

        /** Tells the model the step that is to be taken at a place. */
        private void choose(int place, int most) {
            searchMatch(place, most);
            searchAgain(place, most);
            model.octet = plain.bytes[place];
            if (againLength >= 2 && againLength + 1 >= matchLength) {
                model.kind = REPEATED + again;
                model.length = againLength;
            } else if (matchLength >= 3 || matchLength == 2 && matchDistance <= NEAR) {
                model.kind = COPY;
                model.length = matchLength;
                model.distance = matchDistance;
            } else {
                model.kind = sameBytes(place, model.distanceOf(0), most) == 1 ? SINGLE : LITERAL;
            }
        }

        private void searchMatch(int place, int most) {
            matchLength = 0;
            for (int d = 1; d <= place && matchLength < most; d++) {
                int same = sameBytes(place, d, most);
                if (same > matchLength) {
                    matchLength = same;
                    matchDistance = d;
                }
            }
        }

        private void searchAgain(int place, int most) {
            again = 0;
            againLength = 0;
            for (int k = 0; k < 4; k++) {
                int same = sameBytes(place, model.distanceOf(k), most);
                if (same > againLength) {
                    againLength = same;
                    again = k;
                }
            }
        }

        private int sameBytes(int place, long distance, int most) {
            if (distance > place) {
                return 0;
            }
            int back = place - (int) distance;
            int same = 0;
            for (int i = 0; i < most && plain.bytes[back + i] == plain.bytes[place + i]; i++) {
                same++;
            }
            return same;
        }

        void closeBlock() {
            draft.append(CHUNKS_END);
            blockSize = draft.size - blockPlace + checkSize(sort);
            fillUp(blockPlace);
            if (sort == 1) {
                draft.appendLowFirst(sumFour(plain.bytes, 0, plain.size), 4);
            } else if (sort == 4) {
                draft.appendLowFirst(sumEight(plain.bytes, 0, plain.size), 8);
            }
        }

        private void fillUp(int start) {
            for (int i = 0; i < 3 && (draft.size - start) % 4 != 0; i++) {
                draft.append(0);
            }
        }

        private void appendNumber(long number) {
            long rest = number;
            for (int i = 0; i < 8 && rest >= 128; i++) {
                draft.append((int) (rest & 127) + 128);
                rest >>>= 7;
            }
            draft.append((int) rest);
        }

        void writeIndex() {
            int start = draft.size;
            draft.append(0);
            if (plain.size > 0) {
                appendNumber(1);
                appendNumber(blockSize);
                appendNumber(plain.size);
            } else {
                appendNumber(0);
            }
            fillUp(start);
            draft.appendLowFirst(sumFour(draft.bytes, start, draft.size), 4);
            indexSize = draft.size - start;
        }

        void writeEnd() {
            // The index of one block at most is so short that the lowest byte holds the number.
            end[0] = indexSize / 4 - 1;
            end[5] = sort;
            draft.appendLowFirst(sumFour(end, 0, end.length), 4);
            draft.appendAll(end, 0, end.length);
            draft.append(END_FIRST);
            draft.append(END_SECOND);
        }
    }
}
