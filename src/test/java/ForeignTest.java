import java.io.IOException;
import java.nio.file.Files;
import java.nio.file.Path;

/**
 * Promise 8 over containers that do not rest on how this project reads the document: in foreign.txt are
 * containers whose chunks xz's liblzma 5.4.1 wrote, some of them damaged, and what liblzma makes of each:
 * PACKED, and PLAIN ("-" if it has no bytes) or "refused". Which fault it is, and its place, liblzma does
 * not tell.
 */
public final class ForeignTest {
    private static final Due due = new Due();

    public static void main(String[] args) throws IOException {
        int line = 0;
        for (String row : Files.readAllLines(Path.of("src/test/data/foreign.txt"))) {
            line++;
            String[] fields = row.split(" ");
            if (fields[1].equals("refused")) {
                refuses("foreign.txt, line " + line, fields[0]);
            } else {
                due.takes("foreign.txt, line " + line, fields[0], fields[1].equals("-") ? "" : fields[1]);
            }
        }
        due.end();
    }

    private static void refuses(String what, String container) {
        IntervalPacker x = new IntervalPacker();
        x.feed(0xABCDEF, 3, false);
        Due.fill(x, container, true);
        int answer = x.unpack();
        due.is(what + ", refused", answer <= IntervalPacker.CUT && answer >= IntervalPacker.DATA, true);
        due.is(what + ", a place", x.where() >= 0 && x.where() <= container.length() / 2, true);
        due.is(what + ", PLAIN", Due.hexOf(x, false), "abcdef");
    }
}
