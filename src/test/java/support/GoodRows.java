import java.util.HashMap;
import java.util.HashSet;
import java.util.Map;
import java.util.Set;

/**
 * The good rows of UTF-8 or MODIFIED, found the long way round: all that the encoding makes, and all
 * beginnings of these. So decoding is checked against the document's words, not against byte ranges.
 */
final class GoodRows {
    private static final int LONGEST = 4;
    private final Map<Long, Integer> good = new HashMap<>();
    private final Set<Long> beginnings = new HashSet<>();

    static GoodRows ofUtf8() {
        GoodRows rows = new GoodRows();
        for (int c = 0; c <= Character.MAX_CODE_POINT; c++) {
            if (c < 55296 || c > 57343) {
                rows.add(c, formula(c));
            }
        }
        return rows;
    }

    static GoodRows ofModified() {
        GoodRows rows = new GoodRows();
        rows.add(0, 192, 128);
        for (int unit = 1; unit < 65536; unit++) {
            rows.add(unit, formula(unit));
        }
        return rows;
    }

    private static int[] formula(int c) {
        if (c < 128) {
            return new int[] {c};
        }
        if (c < 2048) {
            return new int[] {192 + c / 64, 128 + c % 64};
        }
        if (c < 65536) {
            return new int[] {224 + c / 4096, 128 + c / 64 % 64, 128 + c % 64};
        }
        return new int[] {240 + c / 262144, 128 + c / 4096 % 64, 128 + c / 64 % 64, 128 + c % 64};
    }

    private void add(int c, int... row) {
        good.put(key(row, 0, row.length), c);
        for (int length = 1; length < row.length; length++) {
            beginnings.add(key(row, 0, length));
        }
    }

    private static long key(int[] row, int from, int length) {
        long key = 1;
        for (int k = from; k < from + length; k++) {
            key = key << 8 | row[k];
        }
        return key;
    }

    /** The text of all bytes; each bad row is the unit 65533, and a 1 in bad[0]. */
    String read(int[] bytes, int[] bad) {
        StringBuilder text = new StringBuilder();
        int at = 0;
        while (at < bytes.length) {
            int goodLength = goodLength(bytes, at);
            if (goodLength > 0) {
                text.appendCodePoint(good.get(key(bytes, at, goodLength)));
                at += goodLength;
            } else {
                text.append((char) 65533);
                bad[0] = 1;
                at += badLength(bytes, at);
            }
        }
        return text.toString();
    }

    private int goodLength(int[] bytes, int at) {
        for (int length = 1; length <= LONGEST && at + length <= bytes.length; length++) {
            if (good.containsKey(key(bytes, at, length))) {
                return length;
            }
        }
        return 0;
    }

    private int badLength(int[] bytes, int at) {
        int longest = 1;
        for (int length = 1; length <= LONGEST && at + length <= bytes.length; length++) {
            if (beginnings.contains(key(bytes, at, length))) {
                longest = length;
            }
        }
        return longest;
    }
}
