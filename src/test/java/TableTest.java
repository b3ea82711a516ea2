import java.io.IOException;
import java.nio.file.Files;
import java.nio.file.Path;

/**
 * Promises 7 to 13 over tables of rows and containers whose answers come from another program, written
 * by the document alone. A line of packed.txt: sort, properties, piece, PLAIN, PACKED or LONG. One of
 * unpacked.txt: k of watch, PACKED, and what unpack, where, range, code, count 0 .. 10 and sum answer.
 */
public final class TableTest {
    private static final Due due = new Due();

    public static void main(String[] args) throws IOException {
        int line = 0;
        for (String row : Files.readAllLines(Path.of("src/test/data/packed.txt"))) {
            line++;
            packs("packed.txt, line " + line, row.split(" "));
        }
        line = 0;
        IntervalPacker used = new IntervalPacker();
        for (String row : Files.readAllLines(Path.of("src/test/data/unpacked.txt"))) {
            line++;
            unpacks("unpacked.txt, line " + line, row.split(" "), new IntervalPacker());
            unpacks("unpacked.txt, line " + line + " on a used object", row.split(" "), used);
        }
        due.end();
    }

    private static String hex(String field) {
        return field.equals("-") ? "" : field;
    }

    private static void packs(String where, String[] row) {
        IntervalPacker x = new IntervalPacker();
        Due.fill(x, hex(row[3]), false);
        x.feed(0xABCD, 2, true);
        boolean isLong = row[4].equals("LONG");
        int answer = x.pack(Integer.parseInt(row[0]), Integer.parseInt(row[1]), Integer.parseInt(row[2]));
        due.is(where + ", pack", answer, isLong ? IntervalPacker.LONG : row[4].length() / 2);
        due.is(where + ", PACKED", Due.hexOf(x, true), isLong ? "abcd" : row[4]);
        if (!isLong) {
            x.cut(0, false);
            due.is(where + ", unpack", x.unpack(), hex(row[3]).length() / 2);
            due.is(where + ", PLAIN", Due.hexOf(x, false), hex(row[3]));
        }
    }

    private static void unpacks(String where, String[] row, IntervalPacker x) {
        Due.fill(x, "abcd", false);
        Due.fill(x, hex(row[1]), true);
        due.is(where + ", watch", x.watch(Integer.parseInt(row[0])), true);
        due.is(where + ", unpack", x.unpack(), Long.parseLong(row[2]));
        due.is(where + ", where", x.where(), Long.parseLong(row[3]));
        due.is(where + ", range", x.range(), Long.parseLong(row[4]));
        due.is(where + ", code", x.code(), Long.parseLong(row[5]));
        due.is(where + ", counts", Due.countsOf(x), row[6].replace(',', ' '));
        if (row[7].equals("-")) {
            due.is(where + ", PLAIN", Due.hexOf(x, false), "abcd");
        } else {
            due.is(where + ", sum", x.sum(false), Long.parseLong(row[7]));
        }
    }
}
