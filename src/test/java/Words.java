/** PACKING by the words of the document alone: what pack() is due to write. */
final class Words {
    private final int[] plain;
    private final Steps steps;
    private final int properties;
    /** How often two distances, and two repeated ones, were as good as one another. */
    int evenCopies;
    int evenRepeated;

    Words(String hex, int properties) {
        plain = new int[hex.length() / 2];
        for (int i = 0; i < plain.length; i++) {
            plain[i] = Integer.parseInt(hex.substring(2 * i, 2 * i + 2), 16);
        }
        this.properties = properties;
        steps = new Steps(properties);
    }

    static String pack(String hex, int sort, int properties, int piece) {
        if (hex.isEmpty()) {
            return Maker.start(sort) + Maker.close(Maker.index(), sort);
        }
        return Maker.checked(sort, new Words(hex, properties).chunks(piece), hex);
    }

    /** All chunks without their end. */
    String chunks(int piece) {
        StringBuilder chunks = new StringBuilder();
        boolean wasCoded = false;
        boolean isBehindPlain = false;
        for (int from = 0; from < plain.length; from += piece) {
            int to = Math.min(from + piece, plain.length);
            if (isBehindPlain) {
                steps.anew(properties);
            }
            for (int place = from; place < to; place = steps.size()) {
                takeStep(place, Math.min(to - place, 273));
            }
            boolean isCoded = steps.data().length() / 2 < to - from;
            if (isCoded) {
                chunks.append(steps.chunk(from == 0 ? 224 : !wasCoded ? 192 : isBehindPlain ? 160 : 128));
            } else {
                chunks.append(steps.plainInstead(from == 0 ? 1 : 2));
            }
            wasCoded = wasCoded || isCoded;
            isBehindPlain = !isCoded;
        }
        return chunks.toString();
    }

    /** e(d). */
    private int e(long d, int place, int f) {
        int same = 0;
        while (d <= place && same < f && plain[place + same] == plain[(int) (place + same - d)]) {
            same++;
        }
        return same;
    }

    private void takeStep(int place, int f) {
        int m = 0;
        int least = 0;
        for (int d = place; d >= 1; d--) {
            int same = e(d, place, f);
            evenCopies += same == m && m > 2 ? 1 : 0;
            if (same >= m) {
                m = same;
                least = d;
            }
        }
        int k = 3;
        for (int i = 2; i >= 0; i--) {
            boolean isEven = e(steps.distance(i), place, f) == e(steps.distance(k), place, f);
            evenRepeated += isEven && e(steps.distance(k), place, f) > 2 && steps.distance(i) != steps.distance(k) ? 1 : 0;
            if (e(steps.distance(i), place, f) >= e(steps.distance(k), place, f)) {
                k = i;
            }
        }
        int again = e(steps.distance(k), place, f);
        if (again >= 2 && again + 1 >= m) {
            steps.repeated(k, again);
        } else if (m >= 3 || m == 2 && least <= 128) {
            steps.copy(least, m);
        } else if (e(steps.distance(0), place, f) == 1) {
            steps.single();
        } else {
            steps.literal(plain[place]);
        }
    }
}
