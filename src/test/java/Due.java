import java.util.function.LongSupplier;

/**
 * Counts the answers that are not the ones that are due; what every test here is written with. Some
 * tests ask an object more than the 512 calls that are promised: the class has no such limit of its own.
 */
final class Due {
    private int looked;
    private int wrong;

    void is(String call, long got, long want) {
        looked++;
        if (got != want) {
            wrong++;
            System.out.println(call + " answered " + got + ", due is " + want);
        }
    }

    void is(String call, String got, String want) {
        looked++;
        if (!got.equals(want)) {
            wrong++;
            System.out.println(call + " answered " + got + ", due is " + want);
        }
    }

    void is(String call, boolean got, boolean want) {
        is(call, got ? 1 : 0, want ? 1 : 0);
    }

    void end() {
        System.out.println(looked + " answers, " + wrong + " of them wrong");
        if (wrong != 0 || looked == 0) {
            System.exit(1);
        }
    }

    /** Packed bytes that are a container: what they give, and that nothing else becomes of them. */
    IntervalPacker takes(String what, String container, String plain) {
        IntervalPacker x = new IntervalPacker();
        x.feed(0xABCDEF, 3, false);
        fill(x, container, true);
        is(what + ", unpack()", x.unpack(), plain.length() / 2);
        is(what + ", where()", x.where(), IntervalPacker.NONE);
        is(what + ", PLAIN", hexOf(x, false), plain);
        is(what + ", PACKED", hexOf(x, true), container);
        return x;
    }

    /** Packed bytes that are none: the fault and its place, and that PLAIN and PACKED stay as they were. */
    IntervalPacker refuses(String what, String container, int fault, int place) {
        IntervalPacker x = new IntervalPacker();
        x.feed(0xABCDEF, 3, false);
        fill(x, container, true);
        is(what + ", unpack()", x.unpack(), fault);
        is(what + ", where()", x.where(), place);
        is(what + ", PLAIN", hexOf(x, false), "abcdef");
        is(what + ", PACKED", hexOf(x, true), container);
        return x;
    }

    /** A call that is refused: its answer, and that all that the object answers is as before. */
    void refusesCall(String call, IntervalPacker x, LongSupplier made, long want) {
        String before = stateOf(x);
        is(call, made.getAsLong(), want);
        is("all behind " + call, stateOf(x), before);
    }

    /** All that an object answers without being changed, as one text. */
    static String stateOf(IntervalPacker x) {
        return "PLAIN " + hexOf(x, false) + " PACKED " + hexOf(x, true) + " where " + x.where() + " range " + x.range()
                + " code " + x.code() + " counts " + countsOf(x) + " sums " + x.sum(false) + " " + x.sum(true);
    }

    /** A row gets the bytes of a text of hexadecimal digits, in place of what it has. */
    static void fill(IntervalPacker x, String hex, boolean packed) {
        x.cut(0, packed);
        for (int i = 0; i < hex.length(); i += 16) {
            String eight = hex.substring(i, Math.min(i + 16, hex.length()));
            if (x.feed(Long.parseUnsignedLong(eight, 16), eight.length() / 2, packed) < 0) {
                throw new IllegalStateException("the row is too short for the test");
            }
        }
    }

    static void fillText(IntervalPacker x, String text) {
        fill(x, hexOf(text), false);
    }

    static String hexOf(String text) {
        StringBuilder hex = new StringBuilder();
        for (char c : text.toCharArray()) {
            hex.append(String.format("%02x", (int) c));
        }
        return hex.toString();
    }

    static String hexOf(IntervalPacker x, boolean packed) {
        StringBuilder hex = new StringBuilder();
        for (int i = 0; x.at(i, packed) != IntervalPacker.NONE; i++) {
            hex.append(String.format("%02x", x.at(i, packed)));
        }
        return hex.toString();
    }

    static String countsOf(IntervalPacker x) {
        StringBuilder counts = new StringBuilder();
        for (int i = 0; i <= 10; i++) {
            counts.append(i == 0 ? "" : " ").append(x.count(i));
        }
        return counts.toString();
    }
}
