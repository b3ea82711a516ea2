/** Promises 1 to 6: a new object, feed, copy, cut, change, at. */
public final class RowsTest {
    private static final Due due = new Due();

    public static void main(String[] args) {
        newObject();
        feed();
        feedUpToTheBrim();
        copy();
        copyUpToTheBrim();
        cut();
        change();
        at();
        objectsAreApart();
        due.end();
    }

    private static void newObject() {
        IntervalPacker x = new IntervalPacker();
        due.is("at(0, false)", x.at(0, false), -1);
        due.is("at(0, true)", x.at(0, true), -1);
        due.is("cut(0, false)", x.cut(0, false), 0);
        due.is("cut(0, true)", x.cut(0, true), 0);
        due.is("where()", x.where(), -1);
        due.is("range()", x.range(), -1);
        due.is("code()", x.code(), -1);
        due.is("counts", Due.countsOf(x), "0 0 0 0 0 0 0 0 0 0 0");
        due.is("sum(false)", x.sum(false), 0);
        due.is("sum(true)", x.sum(true), 0);
        due.is("copy(1, 1)", x.copy(1, 1), -1);
        due.is("change(0, 0)", x.change(0, 0), -1);
    }

    private static void feed() {
        IntervalPacker x = new IntervalPacker();
        due.is("feed 8", x.feed(0x0102030405060708L, 8, false), 8);
        due.is("feed 3 of 8", x.feed(0x0102030405A6B7C8L, 3, false), 11);
        due.is("feed -1", x.feed(-1L, 2, false), 13);
        due.is("plain", Due.hexOf(x, false), "0102030405060708a6b7c8ffff");
        due.is("feed 1 packed", x.feed(0x180L, 1, true), 1);
        due.is("feed 8 packed", x.feed(Long.MIN_VALUE, 8, true), 9);
        due.is("packed", Due.hexOf(x, true), "808000000000000000");
        for (int n : new int[] {0, -1, 9, Integer.MIN_VALUE, Integer.MAX_VALUE}) {
            due.is("feed " + n, x.feed(5, n, false), -1);
            due.is("feed packed " + n, x.feed(5, n, true), -1);
        }
        due.is("plain then", Due.hexOf(x, false), "0102030405060708a6b7c8ffff");
        due.is("packed then", Due.hexOf(x, true), "808000000000000000");
    }

    private static void feedUpToTheBrim() {
        IntervalPacker x = new IntervalPacker();
        for (int i = 1; i <= 80; i++) {
            due.is("feed packed", x.feed(i, 8, true), 8 * i);
            due.is("feed", x.feed(i, 8, false), i <= 50 ? 8 * i : -1);
        }
        due.is("feed at 400", x.feed(1, 1, false), -1);
        due.is("feed at 640", x.feed(1, 1, true), -1);
        due.is("cut", x.cut(393, false), 7);
        due.is("feed 8 of 7", x.feed(-1, 8, false), -1);
        due.is("nothing came", x.at(393, false), -1);
        due.is("feed 7 of 7", x.feed(-1, 7, false), 400);
        due.is("cut packed", x.cut(639, true), 1);
        due.is("feed 2 of 1", x.feed(-1, 2, true), -1);
        due.is("feed 1 of 1", x.feed(-1, 1, true), 640);
    }

    private static void copy() {
        IntervalPacker x = new IntervalPacker();
        x.feed(0x010203, 3, false);
        due.is("copy over itself", x.copy(2, 5), 8);
        due.is("plain", Due.hexOf(x, false), "0102030203020302");
        due.is("copy from the front", x.copy(8, 3), 11);
        due.is("copy the last", x.copy(1, 2), 13);
        due.is("plain", Due.hexOf(x, false), "01020302030203020102030303");
        int[][] wrong = {{1, 0}, {1, -1}, {1, 301}, {0, 1}, {-1, 1}, {14, 1}, {Integer.MIN_VALUE, 1},
            {Integer.MAX_VALUE, 1}, {1, Integer.MAX_VALUE}, {1, Integer.MIN_VALUE}};
        for (int[] w : wrong) {
            due.is("copy(" + w[0] + ", " + w[1] + ")", x.copy(w[0], w[1]), -1);
        }
        due.is("plain then", Due.hexOf(x, false), "01020302030203020102030303");
        due.is("packed then", Due.hexOf(x, true), "");
    }

    private static void copyUpToTheBrim() {
        IntervalPacker x = new IntervalPacker();
        x.feed(7, 1, false);
        due.is("copy(1, 300)", x.copy(1, 300), 301);
        due.is("copy(301, 100)", x.copy(301, 100), -1);
        due.is("copy(301, 99)", x.copy(301, 99), 400);
        due.is("copy(1, 1)", x.copy(1, 1), -1);
        due.is("at(399)", x.at(399, false), 7);
    }

    private static void cut() {
        IntervalPacker x = new IntervalPacker();
        x.feed(0x0102030405L, 5, false);
        x.feed(0x060708L, 3, true);
        due.is("cut(6, false)", x.cut(6, false), -1);
        due.is("cut(-1, false)", x.cut(-1, false), -1);
        due.is("cut(4, true)", x.cut(4, true), -1);
        due.is("cut(MIN, true)", x.cut(Integer.MIN_VALUE, true), -1);
        due.is("cut(5, false)", x.cut(5, false), 0);
        due.is("cut(2, false)", x.cut(2, false), 3);
        due.is("plain", Due.hexOf(x, false), "0102");
        due.is("packed", Due.hexOf(x, true), "060708");
        due.is("cut(1, true)", x.cut(1, true), 2);
        due.is("packed", Due.hexOf(x, true), "06");
        due.is("cut(3, false)", x.cut(3, false), -1);
        due.is("cut(0, false)", x.cut(0, false), 2);
        due.is("plain", Due.hexOf(x, false), "");
    }

    private static void change() {
        IntervalPacker x = new IntervalPacker();
        x.feed(0x0102, 2, true);
        x.feed(0x030405, 3, false);
        due.is("change(0, 255)", x.change(0, 255), 1);
        due.is("change(0, 0)", x.change(0, 0), 255);
        due.is("change(1, 9)", x.change(1, 9), 2);
        due.is("change(1, 256)", x.change(1, 256), -1);
        due.is("change(1, -1)", x.change(1, -1), -1);
        due.is("change(2, 1)", x.change(2, 1), -1);
        due.is("change(-1, 1)", x.change(-1, 1), -1);
        due.is("change(MAX, 1)", x.change(Integer.MAX_VALUE, 1), -1);
        due.is("packed", Due.hexOf(x, true), "0009");
        due.is("plain", Due.hexOf(x, false), "030405");
        x.cut(1, true);
        due.is("change(1, 1) of what was cut", x.change(1, 1), -1);
    }

    private static void at() {
        IntervalPacker x = new IntervalPacker();
        x.feed(0xFF80, 2, false);
        x.feed(0x7F, 1, true);
        due.is("at(0, false)", x.at(0, false), 255);
        due.is("at(1, false)", x.at(1, false), 128);
        due.is("at(2, false)", x.at(2, false), -1);
        due.is("at(-1, false)", x.at(-1, false), -1);
        due.is("at(0, true)", x.at(0, true), 127);
        due.is("at(1, true)", x.at(1, true), -1);
        due.is("at(MIN, true)", x.at(Integer.MIN_VALUE, true), -1);
        due.is("at(MAX, false)", x.at(Integer.MAX_VALUE, false), -1);
    }

    private static void objectsAreApart() {
        IntervalPacker x = new IntervalPacker();
        IntervalPacker y = new IntervalPacker();
        Due.fillText(x, "aaaaaaaaaaaaaaaaaaaaaaaaaaaa");
        x.pack(1, 93, 400);
        due.is("y's packed", y.at(0, true), -1);
        due.is("y's plain", y.at(0, false), -1);
        y.feed(1, 1, true);
        y.unpack();
        due.is("x's unpack()", x.unpack(), 28);
        due.is("y's where()", y.where(), 0);
        due.is("x's where()", x.where(), -1);
    }
}
