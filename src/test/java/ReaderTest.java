import java.util.ArrayList;
import java.util.List;
import java.util.Random;

/**
 * Promises 8 to 13 over containers that were made wrong in many ways, with the sums put right again or not:
 * each answer is that of Reader, which follows the document alone. The row of containers is the same in each run.
 */
public final class ReaderTest {
    private static final Due due = new Due();
    private static final int[] tally = new int[8];

    public static void main(String[] args) {
        int runs = args.length > 1 ? Integer.parseInt(args[1]) : 6000;
        Random random = new Random(args.length > 0 ? Long.parseLong(args[0]) : 5);
        for (int i = 0; i < runs; i++) {
            Parts parts = new Parts(random);
            String whole = parts.whole();
            compare("run " + i, whole, 1 + random.nextInt(200));
            for (int j = 0; j < 4; j++) {
                compare("run " + i + ", wrong " + j, parts.wrong(), 1 + random.nextInt(200));
            }
        }
        for (int i = 0; i < runs / 2; i++) {
            compare("any data " + i, anyData(random), 1 + random.nextInt(400));
        }
        for (int fault = 2; fault <= 6; fault++) {
            due.is("faults " + -fault + " are met", tally[fault] > 0, true);
        }
        due.is("containers are taken", tally[0] > 0, true);
        if (args.length > 0) {
            System.out.println(java.util.Arrays.toString(tally));
        }
        due.end();
    }

    private static void compare(String what, String hex, int k) {
        if (hex.length() > 1280) {
            return;
        }
        IntervalPacker x = new IntervalPacker();
        x.feed(0xABCDEF, 3, false);
        Due.fill(x, hex, true);
        x.watch(k);
        Reader reader = new Reader(hex, k);
        due.is(what + ", unpack()", x.unpack(), reader.answer);
        due.is(what + ", where()", x.where(), reader.where);
        due.is(what + ", range()", x.range(), reader.range);
        due.is(what + ", code()", x.code(), reader.code);
        StringBuilder counts = new StringBuilder();
        for (int i = 0; i <= 10; i++) {
            counts.append(i == 0 ? "" : " ").append(reader.counts[i]);
        }
        due.is(what + ", counts", Due.countsOf(x), counts.toString());
        due.is(what + ", PLAIN", Due.hexOf(x, false), reader.answer < 0 ? "abcdef" : reader.given());
        tally[Math.max(0, -reader.answer)]++;
    }

    /** Behind a chunk that has taught the coder something, one whose data nobody has written. */
    private static String anyData(Random random) {
        Steps s = new Steps(random.nextInt(4));
        int letters = 1 + random.nextInt(3);
        for (int i = random.nextInt(100); i >= 0; i--) {
            s.literal(random.nextInt(letters) * 255 / Math.max(1, letters - 1));
            int kind = random.nextInt(6);
            if (kind == 0) {
                s.single();
            } else if (kind == 1 && s.size() < 120) {
                s.repeated(random.nextInt(2), 2);
            } else if (kind == 2 && s.size() < 120) {
                s.copy(1 + random.nextInt(s.size()), 2 + random.nextInt(3));
            }
        }
        String first = s.chunk(224);
        StringBuilder data = new StringBuilder("00");
        int ones = random.nextInt(3) == 0 ? 4 : random.nextInt(4);
        for (int i = random.nextInt(60) + 4; i > 0; i--) {
            data.append(String.format("%02x", ones > 0 ? 255 : random.nextInt(256)));
            ones--;
        }
        int n = 1 + random.nextInt(Math.max(1, 400 - s.size()));
        return Maker.ofChunks(Maker.head(), first + Maker.codedChunk(128, n, "", data.toString()), s.size() + n);
    }

    /** A container in parts, so that one of them can be made wrong before the sums are taken. */
    private static final class Parts {
        private final Random random;
        private final int sort;
        private final List<String> heads = new ArrayList<>();
        private final List<String> chunks = new ArrayList<>();
        private final List<String> plains = new ArrayList<>();
        private int room = 400;

        Parts(Random random) {
            this.random = random;
            sort = new int[] {0, 1, 4}[random.nextInt(3)];
            for (int i = random.nextInt(4); i > 0; i--) {
                addBlock();
            }
        }

        private void addBlock() {
            StringBuilder row = new StringBuilder();
            Steps s = new Steps(someProperties());
            boolean isFirst = true;
            boolean isBehindEmptied = true;
            for (int i = random.nextInt(4); i > 0 && room - s.given().length() / 2 > 100; i--) {
                boolean isPlain = random.nextInt(3) == 0;
                boolean empties = isFirst || random.nextInt(5) == 0;
                if (isPlain) {
                    row.append(s.plainChunk(empties ? 1 : 2, someBytes(1 + random.nextInt(20))));
                    isBehindEmptied = isBehindEmptied || empties;
                } else {
                    int least = empties ? 3 : isBehindEmptied ? 2 : 0;
                    int sort = least + random.nextInt(empties ? 1 : 3 - least);
                    if (sort == 3) {
                        s.emptied();
                    }
                    if (sort > 0) {
                        s.anew(sort > 1 ? someProperties() : s.properties());
                    }
                    someSteps(s);
                    row.append(s.chunk(128 + 32 * sort));
                    isBehindEmptied = false;
                }
                isFirst = false;
            }
            chunks.add(row.toString());
            plains.add(s.given());
            room -= s.given().length() / 2;
            heads.add(someHead(row.length() / 2 + 1, s.given().length() / 2));
        }

        private int someProperties() {
            int lc = random.nextInt(4);
            return (random.nextInt(5) * 5 + random.nextInt(4 - lc)) * 9 + lc;
        }

        private String someBytes(int n) {
            StringBuilder hex = new StringBuilder();
            int most = random.nextBoolean() ? 3 : 256;
            for (int i = 0; i < n; i++) {
                hex.append(String.format("%02x", random.nextInt(most)));
            }
            return hex.toString();
        }

        private void someSteps(Steps s) {
            int before = s.size();
            for (int i = 1 + random.nextInt(14); i > 0 && s.size() - before < 60; i--) {
                int kind = s.size() == 0 ? 0 : random.nextInt(8);
                int length = 2 + random.nextInt(random.nextInt(3) == 0 ? 40 : 4);
                if (kind < 3) {
                    s.literal(random.nextInt(4) == 0 ? 255 - random.nextInt(3) : random.nextInt(9));
                } else if (kind < 5) {
                    s.copy(1 + random.nextInt(random.nextInt(40) == 0 ? s.size() + 1 : s.size()), length);
                } else if (kind == 5 && s.distance(0) <= s.size()) {
                    s.single();
                } else {
                    int k = random.nextInt(4);
                    if (s.distance(k) <= s.size()) {
                        s.repeated(k, length);
                    } else {
                        s.literal(7);
                    }
                }
            }
        }

        /** Without the sum. */
        private String someHead(int size, int gift) {
            int flags = random.nextInt(4);
            String rest = String.format("%02x", 64 * flags) + (flags % 2 == 1 ? Maker.number(size) : "")
                    + (flags > 1 ? Maker.number(gift) : "") + "2101" + String.format("%02x", random.nextInt(41));
            int h = Math.max(2, (rest.length() / 2 + 4) / 4) + (random.nextInt(4) == 0 ? random.nextInt(3) : 0);
            StringBuilder hex = new StringBuilder(String.format("%02x", h)).append(rest);
            while (hex.length() < 8 * h) {
                hex.append("00");
            }
            return hex.toString();
        }

        String whole() {
            return built(-1);
        }

        /** Some part of it becomes another one, mostly before the sum of that part. */
        String wrong() {
            int kind = random.nextInt(9);
            if (kind < 5) {
                return built(kind);
            }
            String hex = built(kind == 5 ? random.nextInt(5) : -1);
            if (kind == 6) {
                return hex.substring(0, 2 * random.nextInt(hex.length() / 2));
            }
            if (kind == 7) {
                return hex + someBytes(1 + random.nextInt(3));
            }
            return changed(hex);
        }

        private String changed(String hex) {
            if (hex.isEmpty()) {
                return hex;
            }
            int place = random.nextInt(hex.length() / 2);
            int b = Integer.parseInt(hex.substring(2 * place, 2 * place + 2), 16);
            int how = random.nextInt(6);
            if (how == 0) {
                return hex.substring(0, 2 * place) + hex.substring(2 * place + 2);
            }
            if (how == 1) {
                return hex.substring(0, 2 * place) + someBytes(1) + hex.substring(2 * place);
            }
            int other = how == 2 ? b ^ 1 << random.nextInt(8) : how == 3 ? (b + 1) & 255
                    : how == 4 ? (b + 255) & 255 : random.nextBoolean() ? 255 : random.nextInt(256);
            return Maker.with(hex, place, other);
        }

        /** Kind 0: the flags, 1: a head, 2: the chunks of a block, 3: the index, 4: the end. */
        private String built(int kind) {
            StringBuilder hex = new StringBuilder("fd377a585a00");
            String flags = String.format("00%02x", sort);
            hex.append(Maker.withSum(kind == 0 ? changed(flags) : flags));
            StringBuilder records = new StringBuilder("00").append(Maker.number(heads.size()));
            int which = heads.isEmpty() ? -1 : random.nextInt(heads.size());
            for (int i = 0; i < heads.size(); i++) {
                String head = Maker.withSum(kind == 1 && i == which ? changed(heads.get(i)) : heads.get(i));
                String block = head + (kind == 2 && i == which ? changed(chunks.get(i)) : chunks.get(i)) + "00";
                String check = Maker.check(sort, plains.get(i));
                hex.append(Maker.filled(block)).append(check);
                records.append(Maker.number((block.length() + check.length()) / 2));
                records.append(Maker.number(plains.get(i).length() / 2));
            }
            String row = Maker.filled(records.toString());
            String index = Maker.withSum(kind == 3 ? changed(row) : row);
            String six = Maker.lowFirst(index.length() / 8 - 1, 4) + flags;
            six = kind == 4 ? changed(six) : six;
            return hex.append(index).append(Maker.sumFour(six)).append(six).append("595a").toString();
        }
    }
}
