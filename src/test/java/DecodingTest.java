import java.util.Arrays;

/** Promises 19 and 21 for all characters and units, and for all short rows of the bytes at the edges. */
public final class DecodingTest {
    private static final Checks checks = new Checks();
    private static final int LONGEST_ROW = 4;
    private static final int[] EDGES = {
        0, 1, 127, 128, 129, 143, 144, 159, 160, 191, 192, 193, 194, 223, 224, 225, 236, 237, 238, 239, 240, 241,
        243, 244, 245, 255
    };

    public static void main(String[] args) {
        charactersBothWays();
        unitsBothWays();
        for (int length = 0; length <= LONGEST_ROW; length++) {
            rowsOfEdges(new int[length], 0);
        }
        checks.end();
    }

    private static void charactersBothWays() {
        for (int c = 0; c <= Character.MAX_CODE_POINT; c += c < 65536 ? 1 : 61) {
            int[] units = Character.isSupplementaryCodePoint(c)
                    ? new int[] {Character.highSurrogate(c), Character.lowSurrogate(c)} : new int[] {c};
            boolean lone = c >= 55296 && c <= 57343;
            bothWays(0, units, lone ? 63 : c);
            bothWays(4, units, c < 256 ? c : 63);
        }
    }

    private static void unitsBothWays() {
        for (int unit = 0; unit < 65536; unit++) {
            for (int encoding = 1; encoding <= 3; encoding++) {
                bothWays(encoding, new int[] {unit}, unit);
            }
        }
    }

    private static void bothWays(int encoding, int[] units, int due) {
        TextDesk desk = new TextDesk();
        PlainDesk plain = new PlainDesk();
        for (int unit : units) {
            desk.unit(unit);
            plain.unit(unit);
        }
        desk.take();
        plain.take();
        String what = "a text of " + due + " in encoding " + encoding;
        checks.due(what, plain.encode(0, encoding), () -> desk.encode(0, encoding));
        for (int k = 0; k < plain.octet(-1); k++) {
            int place = k;
            checks.due(what + ", byte " + k, plain.octet(k), () -> desk.octet(place));
        }
        checks.due(what + ", decoded", 1, () -> desk.decode(encoding, true));
        checks.due(what + ", its character", due, () -> desk.character(1, 0));
        checks.due(what + ", one alone", 1, () -> desk.character(1, -1));
    }

    private static void rowsOfEdges(int[] row, int filled) {
        if (filled == row.length) {
            for (int encoding = 0; encoding <= 4; encoding++) {
                decoded(row, encoding);
            }
            return;
        }
        for (int edge : EDGES) {
            row[filled] = edge;
            rowsOfEdges(row, filled + 1);
        }
    }

    private static void decoded(int[] row, int encoding) {
        TextDesk desk = new TextDesk();
        PlainDesk plain = new PlainDesk();
        for (int value : row) {
            desk.type(value);
            plain.type(value);
        }
        String strict = Checks.outcome(() -> desk.decode(encoding, true));
        String dueStrict = Checks.outcome(() -> plain.decode(encoding, true));
        if (dueStrict.equals("0")) {
            plain.clear();
            desk.clear();
            for (int value : row) {
                desk.type(value);
                plain.type(value);
            }
        }
        desk.decode(encoding, false);
        plain.decode(encoding, false);
        StringBuilder got = new StringBuilder(strict);
        StringBuilder due = new StringBuilder(dueStrict);
        for (int k = -1; k < plain.at(0, -1) && k < desk.at(0, -1); k++) {
            got.append(' ').append(desk.at(0, k));
            due.append(' ').append(plain.at(0, k));
        }
        checks.same(Arrays.toString(row) + " in encoding " + encoding, got.toString(), due.toString());
    }
}
