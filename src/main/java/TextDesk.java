/**
 * A runtime for texts: texts that never change, a builder for new ones, a row of bytes that texts
 * are encoded to and decoded from, and a table of symbols. README.md says how to use it.
 *
 * Where a call can be refused for several reasons, they are tested in the order in which the
 * document names their exceptions, and nothing is changed before the last test.
 */
public final class TextDesk {
    private static final int MOST_UNITS = 60;
    private static final int MOST_TEXTS = 24;
    private static final int MOST_BYTES = 200;
    private static final int MOST_SYMBOLS = 16;

    private static final int UNIT_COUNT = 65536;
    private static final int BYTE_COUNT = 256;
    private static final int FIRST_HIGH = 55296;
    private static final int FIRST_LOW = 56320;
    private static final int LOW_COUNT = 1024;
    private static final int SPACE = 32;
    private static final int QUESTION_MARK = 63;
    private static final int REPLACEMENT = 65533;

    private static final int UTF_8 = 0;
    private static final int MODIFIED = 1;
    private static final int BIG = 2;
    private static final int LITTLE = 3;
    private static final int LATIN = 4;

    /** As k it asks for a length; as an answer it says that there is nothing at a place. */
    private static final int NONE = -1;

    /** Filled from the front, as the symbols are; the rest is null. */
    private final Text[] texts;
    private final Text[] symbols;
    private final Row bytes;
    private final Decoder decoder;
    private Row builder;
    /** Where a call puts its units together, so that a refused call leaves all else alone. */
    private Row draft;

    public TextDesk() {
        texts = new Text[MOST_TEXTS];
        symbols = new Text[MOST_SYMBOLS];
        bytes = new Row(MOST_BYTES);
        decoder = new Decoder();
        builder = new Row(MOST_UNITS);
        draft = new Row(MOST_UNITS);
    }

    public int unit(int unit) throws IllegalArgumentException, IllegalStateException {
        if (unit < 0 || unit >= UNIT_COUNT) {
            throw new IllegalArgumentException("no unit");
        }
        if (builder.isFull()) {
            throw new IllegalStateException("the builder is full");
        }
        builder.append(unit);
        return builder.size();
    }

    public int insert(int at, int text) throws IllegalArgumentException, IllegalStateException {
        Text inserted = textNumbered(text);
        if (at < 0 || at > builder.size()) {
            throw new IllegalArgumentException("no such place");
        }
        draft.drop();
        draft.appendRange(builder, 0, at);
        draft.appendRange(inserted, 0, inserted.size());
        draft.appendRange(builder, at, builder.size());
        refuseSpilledDraft();
        makeDraftTheBuilder();
        return builder.size();
    }

    public void delete(int from, int to) throws IndexOutOfBoundsException {
        refuseBadRange(from, to, builder.size());
        draft.drop();
        draft.appendRange(builder, 0, from);
        draft.appendRange(builder, to, builder.size());
        makeDraftTheBuilder();
    }

    public void reverse() {
        draft.drop();
        for (int k = builder.size() - 1; k >= 0; k--) {
            int unit = builder.get(k);
            int before = builder.get(k - 1);
            if (isPair(before, unit)) {
                draft.append(before);
                k--;
            }
            draft.append(unit);
        }
        makeDraftTheBuilder();
    }

    public int built(int k) throws IndexOutOfBoundsException {
        return sizeOrItem(builder, k);
    }

    public int take() throws IllegalStateException {
        int number = keepText(textOf(builder));
        builder.drop();
        return number;
    }

    public int join(int a, int b) throws IllegalArgumentException, IllegalStateException {
        Text left = textNumbered(a);
        Text right = textNumbered(b);
        if (left.size() + right.size() > MOST_UNITS) {
            throw new IllegalStateException("the text would be too long");
        }
        return keepText(joined(left, right));
    }

    public int part(int text, int from, int to)
            throws IllegalArgumentException, IndexOutOfBoundsException, IllegalStateException {
        Text whole = textNumbered(text);
        refuseBadRange(from, to, whole.size());
        return keepRange(whole, from, to);
    }

    public int replace(int a, int b, int c) throws IllegalArgumentException, IllegalStateException {
        Text whole = textNumbered(a);
        Text old = textNumbered(b);
        Text fresh = textNumbered(c);
        draft.drop();
        for (int k = 0; k <= whole.size(); k++) {
            boolean found = standsAt(whole, old, k);
            if (found) {
                draft.appendRange(fresh, 0, fresh.size());
            }
            if (found && old.size() > 0) {
                k += old.size() - 1;
            } else {
                draft.appendRange(whole, k, k + 1);
            }
        }
        refuseSpilledDraft();
        return keepText(textOf(draft));
    }

    public int strip(int text) throws IllegalArgumentException, IllegalStateException {
        Text whole = textNumbered(text);
        int from = 0;
        while (from < whole.size() && whole.get(from) <= SPACE) {
            from++;
        }
        int to = whole.size();
        while (to > from && whole.get(to - 1) <= SPACE) {
            to--;
        }
        return keepRange(whole, from, to);
    }

    public int at(int text, int k) throws IllegalArgumentException, IndexOutOfBoundsException {
        return sizeOrItem(textNumbered(text), k);
    }

    public int character(int text, int k) throws IllegalArgumentException, IndexOutOfBoundsException {
        Text whole = textNumbered(text);
        int count = 0;
        for (int place = 0; place < whole.size(); place++) {
            int character = characterAt(whole, place);
            if (count == k) {
                return character;
            }
            count++;
            if (character >= UNIT_COUNT) {
                place++;
            }
        }
        if (k != NONE) {
            throw new IndexOutOfBoundsException("no such character");
        }
        return count;
    }

    public boolean narrow(int text) throws IllegalArgumentException {
        return textNumbered(text).isNarrow();
    }

    public int hash(int text) throws IllegalArgumentException {
        Text whole = textNumbered(text);
        int sum = 0;
        for (int k = 0; k < whole.size(); k++) {
            sum = 31 * sum + whole.get(k);
        }
        return sum;
    }

    public int compare(int a, int b) throws IllegalArgumentException {
        return difference(textNumbered(a), textNumbered(b));
    }

    public int find(int a, int b, int from, boolean last) throws IllegalArgumentException {
        Text whole = textNumbered(a);
        Text sought = textNumbered(b);
        return last ? lastPlace(whole, sought, from) : firstPlace(whole, sought, from);
    }

    public int symbol(int text) throws IllegalArgumentException, IllegalStateException {
        Text named = textNumbered(text);
        for (int k = 0; k < symbols.length; k++) {
            if (symbols[k] == null) {
                symbols[k] = named;
                return k;
            }
            if (difference(symbols[k], named) == 0) {
                return k;
            }
        }
        throw new IllegalStateException("the table of symbols is full");
    }

    public int encode(int text, int encoding) throws IllegalArgumentException {
        Text whole = textNumbered(text);
        refuseUnknownEncoding(encoding);
        bytes.drop();
        Encoder.writeText(whole, encoding, bytes);
        return bytes.size();
    }

    public int type(int value) throws IllegalArgumentException, IllegalStateException {
        if (value < 0 || value >= BYTE_COUNT) {
            throw new IllegalArgumentException("no byte");
        }
        if (bytes.isFull()) {
            throw new IllegalStateException("there is no room for a byte");
        }
        bytes.append(value);
        return bytes.size();
    }

    public int decode(int encoding, boolean strict)
            throws IllegalArgumentException, UnsupportedOperationException, IllegalStateException {
        refuseUnknownEncoding(encoding);
        draft.drop();
        boolean allGood = decoder.readAll(bytes, encoding, draft);
        if (strict && !allGood) {
            throw new UnsupportedOperationException("there is a bad row of bytes");
        }
        refuseSpilledDraft();
        int number = keepText(textOf(draft));
        bytes.drop();
        return number;
    }

    public int octet(int k) throws IndexOutOfBoundsException {
        return sizeOrItem(bytes, k);
    }

    public void clear() {
        for (int k = 0; k < texts.length; k++) {
            texts[k] = null;
        }
        for (int k = 0; k < symbols.length; k++) {
            symbols[k] = null;
        }
    }

    private Text textNumbered(int number) {
        if (number < 0 || number >= texts.length || texts[number] == null) {
            throw new IllegalArgumentException("no such text");
        }
        return texts[number];
    }

    private int keepText(Text text) {
        for (int k = 0; k < texts.length; k++) {
            if (texts[k] == null) {
                texts[k] = text;
                return k;
            }
        }
        throw new IllegalStateException("there is no room for a text");
    }

    private int keepRange(Text whole, int from, int to) {
        draft.drop();
        draft.appendRange(whole, from, to);
        return keepText(textOf(draft));
    }

    private void makeDraftTheBuilder() {
        Row old = builder;
        builder = draft;
        draft = old;
    }

    private void refuseSpilledDraft() {
        if (draft.hasSpilled()) {
            throw new IllegalStateException("there would be too many units");
        }
    }

    private static void refuseBadRange(int from, int to, int size) {
        if (from < 0 || from > to || to > size) {
            throw new IndexOutOfBoundsException("no such range");
        }
    }

    private static void refuseUnknownEncoding(int encoding) {
        if (encoding < UTF_8 || encoding > LATIN) {
            throw new IllegalArgumentException("no such encoding");
        }
    }

    private static int sizeOrItem(Sequence sequence, int k) {
        if (k == NONE) {
            return sequence.size();
        }
        int item = sequence.get(k);
        if (item == NONE) {
            throw new IndexOutOfBoundsException("there is nothing at this place");
        }
        return item;
    }

    private static Text textOf(Row units) {
        for (int k = 0; k < units.size(); k++) {
            if (units.get(k) >= BYTE_COUNT) {
                return new WideText(units);
            }
        }
        return new NarrowText(units);
    }

    /**
     * An empty text is left out: joined with itself again and again it would make a tree whose
     * size doubles each time. Without it a tree has at most one leaf for each of its units.
     */
    private static Text joined(Text left, Text right) {
        if (left.size() == 0) {
            return right;
        }
        if (right.size() == 0) {
            return left;
        }
        return new JoinedText(left, right);
    }

    private static boolean isHigh(int unit) {
        return unit >= FIRST_HIGH && unit < FIRST_LOW;
    }

    private static boolean isLow(int unit) {
        return unit >= FIRST_LOW && unit < FIRST_LOW + LOW_COUNT;
    }

    private static boolean isPair(int first, int second) {
        return isHigh(first) && isLow(second);
    }

    private static int characterAt(Sequence units, int place) {
        int first = units.get(place);
        int second = units.get(place + 1);
        if (!isPair(first, second)) {
            return first;
        }
        return UNIT_COUNT + (first - FIRST_HIGH) * LOW_COUNT + second - FIRST_LOW;
    }

    private static int difference(Text a, Text b) {
        int shared = Math.min(a.size(), b.size());
        for (int k = 0; k < shared; k++) {
            if (a.get(k) != b.get(k)) {
                return a.get(k) - b.get(k);
            }
        }
        return a.size() - b.size();
    }

    private static boolean standsAt(Text whole, Text sought, int place) {
        if (place > whole.size() - sought.size()) {
            return false;
        }
        for (int k = 0; k < sought.size(); k++) {
            if (whole.get(place + k) != sought.get(k)) {
                return false;
            }
        }
        return true;
    }

    private static int firstPlace(Text whole, Text sought, int from) {
        int highest = whole.size() - sought.size();
        for (int place = Math.max(from, 0); place <= highest; place++) {
            if (standsAt(whole, sought, place)) {
                return place;
            }
        }
        return NONE;
    }

    private static int lastPlace(Text whole, Text sought, int from) {
        int highest = whole.size() - sought.size();
        for (int place = Math.min(from, highest); place >= 0; place--) {
            if (standsAt(whole, sought, place)) {
                return place;
            }
        }
        return NONE;
    }

    /** What can be read place by place: get answers NONE where there is nothing. */
    private abstract static class Sequence {
        abstract int size();

        abstract int get(int k);
    }

    /** A row of units or bytes that grows up to a limit. */
    private static final class Row extends Sequence {
        private final int[] items;
        private int size;
        private boolean spilled;

        Row(int limit) {
            items = new int[Math.max(limit, 0)];
        }

        int size() {
            return size;
        }

        int get(int k) {
            return k >= 0 && k < size && k < items.length ? items[k] : NONE;
        }

        boolean isFull() {
            return size >= items.length;
        }

        /** Whether something did not fit since the row was last empty. */
        boolean hasSpilled() {
            return spilled;
        }

        void append(int item) {
            if (size >= items.length) {
                spilled = true;
                return;
            }
            items[size] = item;
            size++;
        }

        /** Appends what a sequence has between two places. */
        void appendRange(Sequence source, int from, int to) {
            int end = Math.min(to, source.size());
            for (int k = Math.max(from, 0); k < end; k++) {
                append(source.get(k));
            }
        }

        void drop() {
            size = 0;
            spilled = false;
        }
    }

    private abstract static class Text extends Sequence {
        private final int size;
        private final boolean isNarrow;

        Text(int size, boolean isNarrow) {
            this.size = size;
            this.isNarrow = isNarrow;
        }

        final int size() {
            return size;
        }

        final boolean isNarrow() {
            return isNarrow;
        }

        /** Appends all units to a row, in order. */
        void pourInto(Row row) {
            row.appendRange(this, 0, size);
        }
    }

    private static final class NarrowText extends Text {
        private final byte[] units;

        NarrowText(Row row) {
            super(row.size(), true);
            units = new byte[row.size()];
            for (int k = 0; k < units.length; k++) {
                units[k] = (byte) row.get(k);
            }
        }

        int get(int k) {
            return k >= 0 && k < units.length ? units[k] & 255 : NONE;
        }
    }

    private static final class WideText extends Text {
        private final char[] units;

        WideText(Row row) {
            super(row.size(), false);
            units = new char[row.size()];
            for (int k = 0; k < units.length; k++) {
                units[k] = (char) row.get(k);
            }
        }

        int get(int k) {
            return k >= 0 && k < units.length ? units[k] : NONE;
        }
    }

    /** Two texts, one behind the other, whose units are copied only when one of them is asked for. */
    private static final class JoinedText extends Text {
        private final Text left;
        private final Text right;
        private Text flat;

        JoinedText(Text left, Text right) {
            super(left.size() + right.size(), left.isNarrow() && right.isNarrow());
            this.left = left;
            this.right = right;
        }

        int get(int k) {
            if (flat == null) {
                Row row = new Row(size());
                pourInto(row);
                flat = textOf(row);
            }
            return flat.get(k);
        }

        /** At most 24 deep: each level is a text of its own, and join refuses a 25th. */
        void pourInto(Row row) {
            if (flat != null) {
                flat.pourInto(row);
            } else {
                left.pourInto(row);
                right.pourInto(row);
            }
        }
    }

    /** Writes texts as bytes. */
    private static final class Encoder {
        private Encoder() {
        }

        static void writeText(Text text, int encoding, Row bytes) {
            boolean seesPairs = encoding == UTF_8 || encoding == LATIN;
            for (int k = 0; k < text.size(); k++) {
                int code = seesPairs ? characterAt(text, k) : text.get(k);
                writeCode(code, encoding, bytes);
                if (code >= UNIT_COUNT) {
                    k++;
                }
            }
        }

        private static void writeCode(int code, int encoding, Row bytes) {
            switch (encoding) {
                case UTF_8:
                    writeUtf8(isHigh(code) || isLow(code) ? QUESTION_MARK : code, bytes);
                    break;
                case MODIFIED:
                    writeModified(code, bytes);
                    break;
                case BIG:
                    bytes.append(code / 256);
                    bytes.append(code % 256);
                    break;
                case LITTLE:
                    bytes.append(code % 256);
                    bytes.append(code / 256);
                    break;
                default:
                    bytes.append(code < BYTE_COUNT ? code : QUESTION_MARK);
                    break;
            }
        }

        private static void writeModified(int unit, Row bytes) {
            if (unit == 0) {
                bytes.append(192);
                bytes.append(128);
            } else {
                writeUtf8(unit, bytes);
            }
        }

        private static void writeUtf8(int code, Row bytes) {
            if (code < 128) {
                bytes.append(code);
            } else if (code < 2048) {
                bytes.append(192 + code / 64);
                bytes.append(128 + code % 64);
            } else if (code < UNIT_COUNT) {
                bytes.append(224 + code / 4096);
                bytes.append(128 + code / 64 % 64);
                bytes.append(128 + code % 64);
            } else {
                bytes.append(240 + code / 262144);
                bytes.append(128 + code / 4096 % 64);
                bytes.append(128 + code / 64 % 64);
                bytes.append(128 + code % 64);
            }
        }
    }

    /** Reads bytes row by row, and holds what the last one read was. */
    private static final class Decoder {
        /** What a good row stands for; NONE when it is bad. */
        private int code;
        private int width;

        /** Appends the units of all bytes to a row: whether there was no bad row among them. */
        boolean readAll(Row bytes, int encoding, Row units) {
            boolean allGood = true;
            // A row has a byte at least; max only lets this loop's end be seen here.
            for (int at = 0; at < bytes.size(); at += Math.max(width, 1)) {
                readRow(bytes, at, encoding);
                allGood = allGood && code != NONE;
                appendCharacter(code == NONE ? REPLACEMENT : code, units);
            }
            return allGood;
        }

        private static void appendCharacter(int character, Row units) {
            if (character < UNIT_COUNT) {
                units.append(character);
            } else {
                units.append(FIRST_HIGH + (character - UNIT_COUNT) / LOW_COUNT);
                units.append(FIRST_LOW + (character - UNIT_COUNT) % LOW_COUNT);
            }
        }

        private void readRow(Row bytes, int at, int encoding) {
            switch (encoding) {
                case UTF_8:
                    readPrefixed(bytes, at, goodWidthUtf8(bytes.get(at)), false);
                    break;
                case MODIFIED:
                    readPrefixed(bytes, at, goodWidthModified(bytes.get(at)), true);
                    break;
                case BIG:
                    readTwo(bytes.get(at), bytes.get(at + 1));
                    break;
                case LITTLE:
                    readTwo(bytes.get(at + 1), bytes.get(at));
                    break;
                default:
                    setRow(bytes.get(at), 1);
                    break;
            }
        }

        private void setRow(int newCode, int newWidth) {
            code = newCode;
            width = newWidth;
        }

        private void readTwo(int higher, int lower) {
            if (higher == NONE || lower == NONE) {
                setRow(NONE, 1);
            } else {
                setRow(higher * 256 + lower, 2);
            }
        }

        /** Reads a row whose first byte tells how many it has when it is good (0: it never is). */
        private void readPrefixed(Row bytes, int at, int goodWidth, boolean modified) {
            if (goodWidth == 0) {
                setRow(NONE, 1);
                return;
            }
            int first = bytes.get(at);
            int sum = first - firstByteBase(goodWidth);
            for (int k = 1; k < goodWidth; k++) {
                int next = bytes.get(at + k);
                int lowest = k == 1 ? lowestSecond(first) : 128;
                int highest = k == 1 ? highestSecond(first, modified) : 191;
                if (next < lowest || next > highest) {
                    setRow(NONE, k);
                    return;
                }
                sum = sum * 64 + next - 128;
            }
            setRow(sum, goodWidth);
        }

        /** 192 and 193 would begin characters below 128, 245 and more those above all pairs. */
        private static int goodWidthUtf8(int first) {
            if (first < 128) {
                return 1;
            }
            if (first < 194 || first > 244) {
                return 0;
            }
            return first < 224 ? 2 : first < 240 ? 3 : 4;
        }

        /** Here 0 is two bytes, 192 and 128, and no unit needs four. */
        private static int goodWidthModified(int first) {
            if (first == 0 || first >= 240) {
                return 0;
            }
            return first == 192 ? 2 : goodWidthUtf8(first);
        }

        private static int firstByteBase(int goodWidth) {
            switch (goodWidth) {
                case 2:
                    return 192;
                case 3:
                    return 224;
                case 4:
                    return 240;
                default:
                    return 0;
            }
        }

        /** Below it the row would stand for a character that fewer bytes make. */
        private static int lowestSecond(int first) {
            return first == 224 ? 160 : first == 240 ? 144 : 128;
        }

        /** Above it come high and low units (237), what is above all pairs (244), units from 1 on (192). */
        private static int highestSecond(int first, boolean modified) {
            if (modified) {
                return first == 192 ? 128 : 191;
            }
            return first == 237 ? 159 : first == 244 ? 143 : 191;
        }
    }
}
