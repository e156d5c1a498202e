import java.io.ByteArrayOutputStream;
import java.io.DataOutputStream;
import java.io.IOException;
import java.nio.charset.StandardCharsets;
import java.util.ArrayList;
import java.util.Arrays;
import java.util.List;

/** The document again, put together from Java's own strings, to compare long runs of calls with. */
final class PlainDesk {
    private static final GoodRows UTF_8 = GoodRows.ofUtf8();
    private static final GoodRows MODIFIED = GoodRows.ofModified();

    private final List<String> texts = new ArrayList<>();
    private final List<String> symbols = new ArrayList<>();
    private StringBuilder builder = new StringBuilder();
    private int[] bytes = new int[0];

    int textCount() {
        return texts.size();
    }

    int unit(int unit) {
        demand(unit >= 0 && unit <= 65535);
        allow(builder.length() < 60);
        return builder.append((char) unit).length();
    }

    int insert(int at, int text) {
        String inserted = text(text);
        demand(at >= 0 && at <= builder.length());
        allow(builder.length() + inserted.length() <= 60);
        return builder.insert(at, inserted).length();
    }

    int delete(int from, int to) {
        within(from >= 0 && from <= to && to <= builder.length());
        builder.delete(from, to);
        return 0;
    }

    int reverse() {
        builder.reverse();
        return 0;
    }

    int built(int k) {
        return unitOf(builder.toString(), k);
    }

    int take() {
        int number = keep(builder.toString());
        builder = new StringBuilder();
        return number;
    }

    int join(int a, int b) {
        return keep(text(a).concat(text(b)));
    }

    int part(int text, int from, int to) {
        String whole = text(text);
        within(from >= 0 && from <= to && to <= whole.length());
        return keep(whole.substring(from, to));
    }

    int replace(int a, int b, int c) {
        return keep(text(a).replace(text(b), text(c)));
    }

    int strip(int text) {
        return keep(text(text).trim());
    }

    int at(int text, int k) {
        return unitOf(text(text), k);
    }

    int character(int text, int k) {
        int[] characters = text(text).codePoints().toArray();
        within(k >= -1 && k < characters.length);
        return k == -1 ? characters.length : characters[k];
    }

    int narrow(int text) {
        return text(text).chars().allMatch(unit -> unit < 256) ? 1 : 0;
    }

    int hash(int text) {
        return text(text).hashCode();
    }

    int compare(int a, int b) {
        return text(a).compareTo(text(b));
    }

    int find(int a, int b, int from, boolean last) {
        String whole = text(a);
        String sought = text(b);
        if (last) {
            return whole.lastIndexOf(sought, from);
        }
        return from > whole.length() ? -1 : whole.indexOf(sought, from);
    }

    int symbol(int text) {
        String named = text(text);
        if (!symbols.contains(named)) {
            allow(symbols.size() < 16);
            symbols.add(named);
        }
        return symbols.indexOf(named);
    }

    int encode(int text, int encoding) {
        String whole = text(text);
        demand(encoding >= 0 && encoding <= 4);
        byte[] encoded = encoded(whole, encoding);
        bytes = new int[encoded.length];
        for (int k = 0; k < bytes.length; k++) {
            bytes[k] = encoded[k] & 255;
        }
        return bytes.length;
    }

    private static byte[] encoded(String whole, int encoding) {
        if (encoding == 0) {
            return whole.getBytes(StandardCharsets.UTF_8);
        }
        if (encoding == 1) {
            return modified(whole);
        }
        if (encoding == 4) {
            return whole.getBytes(StandardCharsets.ISO_8859_1);
        }
        byte[] pairs = new byte[2 * whole.length()];
        for (int k = 0; k < whole.length(); k++) {
            pairs[encoding == 2 ? 2 * k : 2 * k + 1] = (byte) (whole.charAt(k) >> 8);
            pairs[encoding == 2 ? 2 * k + 1 : 2 * k] = (byte) whole.charAt(k);
        }
        return pairs;
    }

    private static byte[] modified(String whole) {
        ByteArrayOutputStream out = new ByteArrayOutputStream();
        try {
            new DataOutputStream(out).writeUTF(whole);
        } catch (IOException e) {
            throw new AssertionError(e);
        }
        return Arrays.copyOfRange(out.toByteArray(), 2, out.size());
    }

    int type(int value) {
        demand(value >= 0 && value <= 255);
        allow(bytes.length < 200);
        bytes = Arrays.copyOf(bytes, bytes.length + 1);
        bytes[bytes.length - 1] = value;
        return bytes.length;
    }

    int decode(int encoding, boolean strict) {
        demand(encoding >= 0 && encoding <= 4);
        int[] bad = new int[1];
        String text = decoded(encoding, bad);
        if (strict && bad[0] != 0) {
            throw new UnsupportedOperationException();
        }
        int number = keep(text);
        bytes = new int[0];
        return number;
    }

    private String decoded(int encoding, int[] bad) {
        if (encoding == 0) {
            return UTF_8.read(bytes, bad);
        }
        if (encoding == 1) {
            return MODIFIED.read(bytes, bad);
        }
        StringBuilder text = new StringBuilder();
        for (int k = 0; k < bytes.length; k += encoding == 4 ? 1 : 2) {
            if (encoding == 4) {
                text.append((char) bytes[k]);
            } else if (k + 1 == bytes.length) {
                text.append((char) 65533);
                bad[0] = 1;
            } else if (encoding == 2) {
                text.append((char) (bytes[k] << 8 | bytes[k + 1]));
            } else {
                text.append((char) (bytes[k + 1] << 8 | bytes[k]));
            }
        }
        return text.toString();
    }

    int octet(int k) {
        within(k >= -1 && k < bytes.length);
        return k == -1 ? bytes.length : bytes[k];
    }

    int clear() {
        texts.clear();
        symbols.clear();
        return 0;
    }

    private String text(int number) {
        demand(number >= 0 && number < texts.size());
        return texts.get(number);
    }

    private int keep(String text) {
        allow(texts.size() < 24 && text.length() <= 60);
        texts.add(text);
        return texts.size() - 1;
    }

    private static int unitOf(String text, int k) {
        within(k >= -1 && k < text.length());
        return k == -1 ? text.length() : text.charAt(k);
    }

    private static void demand(boolean held) {
        if (!held) {
            throw new IllegalArgumentException();
        }
    }

    private static void allow(boolean held) {
        if (!held) {
            throw new IllegalStateException();
        }
    }

    private static void within(boolean held) {
        if (!held) {
            throw new IndexOutOfBoundsException();
        }
    }
}
