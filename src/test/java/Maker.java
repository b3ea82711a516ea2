import java.util.zip.CRC32;

/** Makes containers out of parts, as texts of hexadecimal digits; SUM4 is the Java library's. */
final class Maker {
    private Maker() {
    }

    static String sumFour(String hex) {
        CRC32 crc = new CRC32();
        for (int i = 0; i < hex.length(); i += 2) {
            crc.update(Integer.parseInt(hex.substring(i, i + 2), 16));
        }
        return lowFirst(crc.getValue(), 4);
    }

    /** The library has no such sum: here it is taken byte by byte, with a number for each byte. */
    static long sumEightOf(String hex) {
        long sum = -1L;
        for (int i = 0; i < hex.length(); i += 2) {
            long low = (sum ^ Integer.parseInt(hex.substring(i, i + 2), 16)) & 255;
            for (int bit = 0; bit < 8; bit++) {
                low = low >>> 1 ^ (low & 1) * 0xC96C5795D7870F42L;
            }
            sum = sum >>> 8 ^ low;
        }
        return ~sum;
    }

    static String check(int sort, String plain) {
        return sort == 0 ? "" : sort == 1 ? sumFour(plain) : lowFirst(sumEightOf(plain), 8);
    }

    static String lowFirst(long number, int n) {
        StringBuilder hex = new StringBuilder();
        for (int i = 0; i < n; i++) {
            hex.append(String.format("%02x", (number >>> (8 * i)) & 255));
        }
        return hex.toString();
    }

    static String withSum(String hex) {
        return hex + sumFour(hex);
    }

    static String filled(String hex) {
        StringBuilder more = new StringBuilder(hex);
        while (more.length() % 8 != 0) {
            more.append("00");
        }
        return more.toString();
    }

    static String start(int sort) {
        String flags = String.format("00%02x", sort);
        return "fd377a585a00" + withSum(flags);
    }

    /** A head of 4 * (h + 1) bytes; the rest is what stands behind the first byte, filled up by 0. */
    static String head(int h, String rest) {
        StringBuilder hex = new StringBuilder(String.format("%02x", h)).append(rest);
        while (hex.length() < 8 * h) {
            hex.append("00");
        }
        return withSum(hex.toString());
    }

    static String head() {
        return head(2, "00210100");
    }

    static String number(long value) {
        StringBuilder hex = new StringBuilder();
        long rest = value;
        while (rest >= 128) {
            hex.append(String.format("%02x", (rest & 127) + 128));
            rest >>>= 7;
        }
        return hex.append(String.format("%02x", rest)).toString();
    }

    static String plainChunk(int c, String bytes) {
        return String.format("%02x%04x", c, bytes.length() / 2 - 1) + bytes;
    }

    static String codedChunk(int c, int n, String properties, String data) {
        return String.format("%02x%04x%04x", c, n - 1, data.length() / 2 - 1) + properties + data;
    }

    /** The index; the records are the blocks' sizes and gifts in turn. */
    static String index(long... records) {
        StringBuilder hex = new StringBuilder("00").append(number(records.length / 2));
        for (long record : records) {
            hex.append(number(record));
        }
        return withSum(filled(hex.toString()));
    }

    static String end(String index, int sort) {
        String six = lowFirst(index.length() / 8 - 1, 4) + String.format("00%02x", sort);
        return sumFour(six) + six + "595a";
    }

    static String close(String index, int sort) {
        return index + end(index, sort);
    }

    /** A whole container of one block without a check. */
    static String ofChunks(String head, String chunks, int gift) {
        String block = head + chunks + "00";
        return start(0) + filled(block) + close(index(block.length() / 2, gift), 0);
    }

    /** A whole container of one block with the check of a sort. */
    static String checked(int sort, String chunks, String plain) {
        String block = head() + chunks + "00";
        String check = check(sort, plain);
        return start(sort) + filled(block) + check
                + close(index((block.length() + check.length()) / 2, plain.length() / 2), sort);
    }

    /** One byte of a container becomes another one. */
    static String with(String container, int place, int b) {
        return container.substring(0, 2 * place) + String.format("%02x", b) + container.substring(2 * place + 2);
    }
}
