/** Promises 19 to 22: a test for each sentence of theirs, and of the encodings, that names a boundary case. */
public final class ByteEdgesTest {
    private static final Checks checks = new Checks();
    private static final Refusals refusals = new Refusals(checks);
    private static final int MIN = Integer.MIN_VALUE;
    private static final int MAX = Integer.MAX_VALUE;
    private static final int HIGH = Scenes.HIGH;
    private static final int LOW = Scenes.LOW;
    private static final int BAD = 65533;
    private static final int UTF_8 = 0;
    private static final int MODIFIED = 1;
    private static final int BIG = 2;
    private static final int LITTLE = 3;
    private static final int LATIN = 4;
    private static final int[] NO_ENCODINGS = {-1, 5, MIN, MAX};

    public static void main(String[] args) {
        encodeHowMany();
        encodeUtf8();
        encodeUtf8LoneUnits();
        encodeModified();
        encodeBigAndLittle();
        encodeLatin();
        encodeNoSuchText();
        encodeNoSuchEncoding();
        typeIsNone();
        typeWhenThereAre200();
        decodeNoBytes();
        decodeUtf8Good();
        decodeUtf8NoneBeginsSo();
        decodeUtf8DoesNotGoOn();
        decodeUtf8Ends();
        decodeModifiedGood();
        decodeModifiedBad();
        decodeOneAtTheEnd();
        decodeLatinAllAreGood();
        decodeBecomesNone();
        decodeNoSuchEncoding();
        decodeRefused();
        decodeWhenThereAre24();
        decodeMoreThan60();
        decodeMostBytes();
        octetLength();
        octetNone();
        checks.end();
    }

    /** "The bytes become a text in an encoding: how many", from none to 180; those before are gone. */
    private static void encodeHowMany() {
        int[] longest = {180, 180, 120, 120, 60};
        for (int encoding = UTF_8; encoding <= LATIN; encoding++) {
            int number = encoding;
            TextDesk x = Scenes.full();
            checks.due("19: 60 units in " + encoding, longest[encoding], () -> x.encode(Scenes.LONG_TEXT, number));
            checks.due("19: so many there are", longest[encoding], () -> x.octet(-1));
            checks.due("19: none in " + encoding, 0, () -> x.encode(Scenes.EMPTY_TEXT, number));
            checks.due("19: none there are", 0, () -> x.octet(-1));
            checks.refused("19: no byte 0", Checks.BOUNDS, () -> x.octet(0));
        }
        TextDesk x = Scenes.ordinary();
        checks.due("19: fewer than before", 2, () -> x.encode(x.part(0, 0, 1), BIG));
        checks.row("19: those alone", Desks.octets(x), 0, 97);
    }

    /** "below 128 one byte ..; below 2048 two ..; below 65536 three ..; else four". */
    private static void encodeUtf8() {
        checks.row("19: 0", encoded(UTF_8, 0), 0);
        checks.row("19: 127", encoded(UTF_8, 127), 127);
        checks.row("19: 128", encoded(UTF_8, 128), 194, 128);
        checks.row("19: 2047", encoded(UTF_8, 2047), 223, 191);
        checks.row("19: 2048", encoded(UTF_8, 2048), 224, 160, 128);
        checks.row("19: 55295", encoded(UTF_8, 55295), 237, 159, 191);
        checks.row("19: 57344", encoded(UTF_8, 57344), 238, 128, 128);
        checks.row("19: 65535", encoded(UTF_8, 65535), 239, 191, 191);
        checks.row("19: 65536", encoded(UTF_8, 55296, 56320), 240, 144, 128, 128);
        checks.row("19: 66559", encoded(UTF_8, 55296, 57343), 240, 144, 143, 191);
        checks.row("19: 262143", encoded(UTF_8, 55487, 57343), 240, 191, 191, 191);
        checks.row("19: 262144", encoded(UTF_8, 55488, 56320), 241, 128, 128, 128);
        checks.row("19: 1113088", encoded(UTF_8, 56319, 56320), 244, 143, 176, 128);
        checks.row("19: 1114111", encoded(UTF_8, 56319, 57343), 244, 143, 191, 191);
    }

    /** "A lone unit is the one byte 63". */
    private static void encodeUtf8LoneUnits() {
        for (int lone : new int[] {55296, 56319, 56320, 57343}) {
            checks.row("19: " + lone + " alone", encoded(UTF_8, lone), 63);
        }
        checks.row("19: low before high", encoded(UTF_8, LOW, HIGH), 63, 63);
        checks.row("19: high at the end", encoded(UTF_8, 97, HIGH), 97, 63);
        checks.row("19: low at the beginning", encoded(UTF_8, LOW, 97), 63, 97);
        checks.row("19: high before a pair", encoded(UTF_8, HIGH, HIGH, LOW), 63, 240, 144, 128, 128);
        checks.row("19: low behind a pair", encoded(UTF_8, HIGH, LOW, LOW), 240, 144, 128, 128, 63);
    }

    /** "each unit on its own, as in UTF-8 in one to three bytes, but 0 as 192, 128". */
    private static void encodeModified() {
        checks.row("19: MODIFIED 0", encoded(MODIFIED, 0), 192, 128);
        checks.row("19: MODIFIED 1", encoded(MODIFIED, 1), 1);
        checks.row("19: MODIFIED 127", encoded(MODIFIED, 127), 127);
        checks.row("19: MODIFIED 128", encoded(MODIFIED, 128), 194, 128);
        checks.row("19: MODIFIED 2047", encoded(MODIFIED, 2047), 223, 191);
        checks.row("19: MODIFIED 2048", encoded(MODIFIED, 2048), 224, 160, 128);
        checks.row("19: MODIFIED 65535", encoded(MODIFIED, 65535), 239, 191, 191);
        checks.row("19: MODIFIED lowest pair", encoded(MODIFIED, 55296, 56320), 237, 160, 128, 237, 176, 128);
        checks.row("19: MODIFIED highest pair", encoded(MODIFIED, 56319, 57343), 237, 175, 191, 237, 191, 191);
        checks.row("19: MODIFIED lone", encoded(MODIFIED, 57343), 237, 191, 191);
    }

    /** "each unit as two bytes, the higher one first" or "the lower one first". */
    private static void encodeBigAndLittle() {
        int[] units = {0, 1, 255, 256, 55296, 65280, 65535};
        for (int unit : units) {
            checks.row("19: BIG " + unit, encoded(BIG, unit), unit >> 8, unit & 255);
            checks.row("19: LITTLE " + unit, encoded(LITTLE, unit), unit & 255, unit >> 8);
        }
    }

    /** "each character below 256 as one byte, others as 63 (a pair too: one byte; a lone unit: 63)". */
    private static void encodeLatin() {
        checks.row("19: LATIN 0", encoded(LATIN, 0), 0);
        checks.row("19: LATIN 255", encoded(LATIN, 255), 255);
        checks.row("19: LATIN 256", encoded(LATIN, 256), 63);
        checks.row("19: LATIN 65535", encoded(LATIN, 65535), 63);
        checks.row("19: LATIN pairs", encoded(LATIN, 55296, 56320, 56319, 57343), 63, 63);
        checks.row("19: LATIN high", encoded(LATIN, HIGH, 97), 63, 97);
        checks.row("19: LATIN low", encoded(LATIN, LOW, 97), 63, 97);
        checks.row("19: LATIN low before high", encoded(LATIN, LOW, HIGH), 63, 63);
    }

    private static int[] encoded(int encoding, int... units) {
        TextDesk x = new TextDesk();
        Desks.text(x, units);
        x.encode(0, encoding);
        return Desks.octets(x);
    }

    /** "IllegalArgumentException: no such text ..". */
    private static void encodeNoSuchText() {
        for (int none : new int[] {-1, Scenes.ORDINARY_TEXTS, 24, MIN, MAX}) {
            refusals.due("19: text " + none, Scenes::ordinary, Checks.ARGUMENT, x -> x.encode(none, UTF_8));
            refusals.due("19: no text, no encoding", Scenes::ordinary, Checks.ARGUMENT, x -> x.encode(none, 5));
        }
        checks.due("19: the last text", 3, () -> Scenes.ordinary().encode(Scenes.ORDINARY_TEXTS - 1, LATIN));
        checks.due("19: text 23", 1, () -> Scenes.full().encode(23, UTF_8));
        refusals.due("19: text 24 of 24", Scenes::full, Checks.ARGUMENT, x -> x.encode(24, UTF_8));
    }

    /** "IllegalArgumentException: no such .. encoding". */
    private static void encodeNoSuchEncoding() {
        for (int none : NO_ENCODINGS) {
            refusals.due("19: encoding " + none, Scenes::ordinary, Checks.ARGUMENT, x -> x.encode(1, none));
            refusals.due("19: encoding " + none + ", no units", Scenes::ordinary, Checks.ARGUMENT,
                    x -> x.encode(2, none));
        }
        checks.due("19: encoding 0", 7, () -> Scenes.ordinary().encode(1, 0));
        checks.due("19: encoding 4", 3, () -> Scenes.ordinary().encode(1, 4));
    }

    /** "IllegalArgumentException: it is none", where a byte is 0 .. 255. */
    private static void typeIsNone() {
        TextDesk x = new TextDesk();
        checks.due("20: type(0)", 1, () -> x.type(0));
        checks.due("20: type(255)", 2, () -> x.type(255));
        checks.row("20: 0 and 255", Desks.octets(x), 0, 255);
        for (int none : new int[] {-1, 256, MIN, MAX}) {
            refusals.due("20: type(" + none + ")", Scenes::ordinary, Checks.ARGUMENT, y -> y.type(none));
            refusals.due("20: type(" + none + ") of none", TextDesk::new, Checks.ARGUMENT, y -> y.type(none));
            refusals.due("20: type(" + none + ") of 200", Scenes::full, Checks.ARGUMENT, y -> y.type(none));
        }
    }

    /** "IllegalStateException: there are 200". */
    private static void typeWhenThereAre200() {
        TextDesk x = Scenes.nearlyFull();
        checks.due("20: the 200th", 200, () -> x.type(9));
        checks.due("20: it is there", 9, () -> x.octet(199));
        refusals.due("20: the 201st, 0", Scenes::full, Checks.STATE, y -> y.type(0));
        refusals.due("20: the 201st, 255", Scenes::full, Checks.STATE, y -> y.type(255));
        TextDesk fewer = Scenes.full();
        fewer.encode(Scenes.SHORT_TEXT, BIG);
        checks.due("20: behind a shorter text", 3, () -> fewer.type(9));
    }

    /** "The bytes become a new text", where there are none. */
    private static void decodeNoBytes() {
        for (int encoding = UTF_8; encoding <= LATIN; encoding++) {
            checks.row("21: no bytes in " + encoding, decoded(encoding));
        }
    }

    /** "good is what the encoding would make of a character that is no high or low unit". */
    private static void decodeUtf8Good() {
        checks.row("21: 0 and 127", decoded(UTF_8, 0, 127), 0, 127);
        checks.row("21: 128 and 2047", decoded(UTF_8, 194, 128, 223, 191), 128, 2047);
        checks.row("21: 2048 and 65535", decoded(UTF_8, 224, 160, 128, 239, 191, 191), 2048, 65535);
        checks.row("21: 55295 and 57344", decoded(UTF_8, 237, 159, 191, 238, 128, 128), 55295, 57344);
        checks.row("21: 65536", decoded(UTF_8, 240, 144, 128, 128), 55296, 56320);
        checks.row("21: 66559", decoded(UTF_8, 240, 144, 143, 191), 55296, 57343);
        checks.row("21: 66560", decoded(UTF_8, 240, 144, 144, 128), 55297, 56320);
        checks.row("21: 262143", decoded(UTF_8, 240, 191, 191, 191), 55487, 57343);
        checks.row("21: 262144", decoded(UTF_8, 241, 128, 128, 128), 55488, 56320);
        checks.row("21: 1113088", decoded(UTF_8, 244, 143, 176, 128), 56319, 56320);
        checks.row("21: 1114111", decoded(UTF_8, 244, 143, 191, 191), 56319, 57343);
    }

    /** "at least one byte": what no good row begins with. */
    private static void decodeUtf8NoneBeginsSo() {
        for (int first : new int[] {128, 191, 192, 193, 245, 247, 248, 255}) {
            checks.row("21: " + first + " alone", decoded(UTF_8, first), BAD);
            checks.row("21: " + first + " before 128", decoded(UTF_8, first, 128), BAD, BAD);
        }
    }

    /** "the longest row that stands there and begins such a good one, but does not go on so". */
    private static void decodeUtf8DoesNotGoOn() {
        for (int first : new int[] {194, 223, 224, 237, 239, 240, 244}) {
            checks.row("21: " + first + ", 127", decoded(UTF_8, first, 127), BAD, 127);
            checks.row("21: " + first + ", 192", decoded(UTF_8, first, 192), BAD, BAD);
        }
        checks.row("21: below 2048 in three", decoded(UTF_8, 224, 159, 128), BAD, BAD, BAD);
        checks.row("21: 2048 cut off by 97", decoded(UTF_8, 224, 160, 97), BAD, 97);
        checks.row("21: the lowest high one", decoded(UTF_8, 237, 160, 128), BAD, BAD, BAD);
        checks.row("21: the highest low one", decoded(UTF_8, 237, 191, 191), BAD, BAD, BAD);
        checks.row("21: 55295 cut off by 97", decoded(UTF_8, 237, 159, 97), BAD, 97);
        checks.row("21: below 65536 in four", decoded(UTF_8, 240, 143, 191, 191), BAD, BAD, BAD, BAD);
        checks.row("21: 65536 cut off by 97", decoded(UTF_8, 240, 144, 97), BAD, 97);
        checks.row("21: above 1114111", decoded(UTF_8, 244, 144, 128, 128), BAD, BAD, BAD, BAD);
        checks.row("21: 1114111 cut off by 97", decoded(UTF_8, 244, 143, 191, 97), BAD, 97);
        checks.row("21: cut off by another row", decoded(UTF_8, 240, 144, 128, 194, 128), BAD, 128);
        checks.row("21: third byte 127", decoded(UTF_8, 225, 128, 127), BAD, 127);
        checks.row("21: third byte 192", decoded(UTF_8, 225, 128, 192), BAD, BAD);
        checks.row("21: fourth byte 127", decoded(UTF_8, 241, 128, 128, 127), BAD, 127);
        checks.row("21: fourth byte 192", decoded(UTF_8, 241, 128, 128, 192), BAD, BAD);
    }

    /** "(or ends)". */
    private static void decodeUtf8Ends() {
        checks.row("21: one of two", decoded(UTF_8, 97, 194), 97, BAD);
        checks.row("21: one of three", decoded(UTF_8, 97, 224), 97, BAD);
        checks.row("21: two of three", decoded(UTF_8, 97, 224, 160), 97, BAD);
        checks.row("21: one of four", decoded(UTF_8, 97, 240), 97, BAD);
        checks.row("21: two of four", decoded(UTF_8, 97, 240, 144), 97, BAD);
        checks.row("21: three of four", decoded(UTF_8, 97, 240, 144, 128), 97, BAD);
        checks.row("21: no beginning, at the end", decoded(UTF_8, 97, 224, 159), 97, BAD, BAD);
    }

    /** "MODIFIED: good is 192, 128 and what the encoding makes of a unit (any) other than 0". */
    private static void decodeModifiedGood() {
        checks.row("21: MODIFIED 0", decoded(MODIFIED, 192, 128), 0);
        checks.row("21: MODIFIED 1 and 127", decoded(MODIFIED, 1, 127), 1, 127);
        checks.row("21: MODIFIED 128 and 2047", decoded(MODIFIED, 194, 128, 223, 191), 128, 2047);
        checks.row("21: MODIFIED 2048 and 65535", decoded(MODIFIED, 224, 160, 128, 239, 191, 191), 2048, 65535);
        checks.row("21: MODIFIED high", decoded(MODIFIED, 237, 160, 128, 237, 175, 191), 55296, 56319);
        checks.row("21: MODIFIED low", decoded(MODIFIED, 237, 176, 128, 237, 191, 191), 56320, 57343);
        checks.row("21: MODIFIED 55295 and 57344", decoded(MODIFIED, 237, 159, 191, 238, 128, 128), 55295, 57344);
    }

    /** "bad likewise". */
    private static void decodeModifiedBad() {
        for (int first : new int[] {0, 128, 191, 193, 240, 244, 245, 255}) {
            checks.row("21: MODIFIED " + first + " alone", decoded(MODIFIED, first), BAD);
            checks.row("21: MODIFIED " + first + " before 128", decoded(MODIFIED, first, 128), BAD, BAD);
        }
        for (int first : new int[] {192, 194, 223, 224, 237, 239}) {
            checks.row("21: MODIFIED " + first + ", 127", decoded(MODIFIED, first, 127), BAD, 127);
            checks.row("21: MODIFIED " + first + ", 192", decoded(MODIFIED, first, 192), BAD, BAD);
        }
        checks.row("21: MODIFIED 65536 in four", decoded(MODIFIED, 240, 144, 128, 128), BAD, BAD, BAD, BAD);
        checks.row("21: MODIFIED third byte 192", decoded(MODIFIED, 225, 128, 192), BAD, BAD);
        checks.row("21: MODIFIED 192, 129", decoded(MODIFIED, 192, 129), BAD, BAD);
        checks.row("21: MODIFIED 192 at the end", decoded(MODIFIED, 97, 192), 97, BAD);
        checks.row("21: MODIFIED one of two", decoded(MODIFIED, 97, 223), 97, BAD);
        checks.row("21: MODIFIED two of three", decoded(MODIFIED, 97, 237, 160), 97, BAD);
        checks.row("21: MODIFIED below 2048 in three", decoded(MODIFIED, 224, 159, 128), BAD, BAD, BAD);
        checks.row("21: MODIFIED cut off by 0", decoded(MODIFIED, 225, 128, 192, 128), BAD, 0);
    }

    /** "BIG, LITTLE: two bytes are good, one at the end is bad". */
    private static void decodeOneAtTheEnd() {
        checks.row("21: BIG 0 and 65535", decoded(BIG, 0, 0, 255, 255), 0, 65535);
        checks.row("21: BIG 256 and 255", decoded(BIG, 1, 0, 0, 255), 256, 255);
        checks.row("21: BIG lone units", decoded(BIG, 220, 0, 216, 0), LOW, HIGH);
        checks.row("21: BIG one alone", decoded(BIG, 97), BAD);
        checks.row("21: BIG one at the end", decoded(BIG, 0, 97, 0), 97, BAD);
        checks.row("21: LITTLE 0 and 65535", decoded(LITTLE, 0, 0, 255, 255), 0, 65535);
        checks.row("21: LITTLE 256 and 255", decoded(LITTLE, 0, 1, 255, 0), 256, 255);
        checks.row("21: LITTLE lone units", decoded(LITTLE, 0, 220, 0, 216), LOW, HIGH);
        checks.row("21: LITTLE one alone", decoded(LITTLE, 97), BAD);
        checks.row("21: LITTLE one at the end", decoded(LITTLE, 97, 0, 0), 97, BAD);
    }

    /** "LATIN: all are good". */
    private static void decodeLatinAllAreGood() {
        for (int value = 0; value < 256; value++) {
            TextDesk x = new TextDesk();
            x.type(value);
            checks.due("21: LATIN, strict", 0, () -> x.decode(LATIN, true));
            checks.row("21: LATIN " + value, Desks.units(x, 0), value);
        }
    }

    private static int[] decoded(int encoding, int... values) {
        TextDesk x = new TextDesk();
        Desks.type(x, values);
        checks.due("21: its number", 0, () -> x.decode(encoding, false));
        return Desks.units(x, 0);
    }

    /** "The bytes become a new text, and are none then". */
    private static void decodeBecomesNone() {
        TextDesk x = Scenes.ordinary();
        checks.due("21: its number", 5, () -> x.decode(UTF_8, false));
        checks.due("21: none then", 0, () -> x.octet(-1));
        checks.refused("21: byte 0 is gone", Checks.BOUNDS, () -> x.octet(0));
        checks.due("21: the first byte again", 1, () -> x.type(255));
        checks.row("21: that alone", Desks.octets(x), 255);
    }

    /** "IllegalArgumentException: there is no such encoding". */
    private static void decodeNoSuchEncoding() {
        for (int none : NO_ENCODINGS) {
            for (boolean strict : new boolean[] {false, true}) {
                String call = "21: decode(" + none + ", " + strict + ")";
                refusals.due(call, Scenes::ordinary, Checks.ARGUMENT, x -> x.decode(none, strict));
                refusals.due(call + ", no bytes", TextDesk::new, Checks.ARGUMENT, x -> x.decode(none, strict));
                refusals.due(call + ", 24 texts", Scenes::full, Checks.ARGUMENT, x -> x.decode(none, strict));
            }
        }
        checks.due("21: encoding 0", 5, () -> Scenes.ordinary().decode(0, false));
        checks.due("21: encoding 4", 5, () -> Scenes.ordinary().decode(4, true));
    }

    /** "or (strict) they are refused"; "UnsupportedOperationException: refused (the bytes stay)". */
    private static void decodeRefused() {
        for (int encoding = UTF_8; encoding <= LITTLE; encoding++) {
            int number = encoding;
            refusals.due("21: strict in " + encoding, Scenes::ordinary, Checks.UNSUPPORTED,
                    x -> x.decode(number, true));
            checks.due("21: not strict in " + encoding, 5, () -> Scenes.ordinary().decode(number, false));
        }
        strictRefused(UTF_8, 255, 97, 97);
        strictRefused(UTF_8, 97, 255, 97);
        strictRefused(UTF_8, 97, 97, 255);
        strictRefused(UTF_8, 237, 160, 128);
        strictRefused(MODIFIED, 97, 0);
        strictRefused(BIG, 97);
        strictRefused(LITTLE, 97);
        TextDesk x = new TextDesk();
        Desks.type(x, 239, 191, 189);
        checks.due("21: the unit 65533 itself is good", 0, () -> x.decode(UTF_8, true));
        checks.row("21: its unit", Desks.units(x, 0), 65533);
        checks.due("21: strict, no bytes", 1, () -> x.decode(UTF_8, true));
    }

    private static void strictRefused(int encoding, int... values) {
        refusals.due("21: strict", () -> typed(values), Checks.UNSUPPORTED, x -> x.decode(encoding, true));
    }

    private static TextDesk typed(int... values) {
        TextDesk x = new TextDesk();
        Desks.type(x, values);
        return x;
    }

    /** "IllegalStateException: there are 24 texts .. (the bytes stay)". */
    private static void decodeWhenThereAre24() {
        TextDesk x = Scenes.nearlyFull();
        x.encode(5, LATIN);
        checks.due("21: the 24th", 23, () -> x.decode(LATIN, true));
        checks.row("21: its units", Desks.units(x, 23), 5);
        checks.refused("21: the 25th, no bytes", Checks.STATE, () -> x.decode(LATIN, true));
        for (int encoding = UTF_8; encoding <= LATIN; encoding++) {
            int number = encoding;
            refusals.due("21: the 25th in " + encoding, Scenes::fullWithOneByte, Checks.STATE,
                    y -> y.decode(number, false));
        }
        refusals.due("21: the 25th, strict", Scenes::fullWithOneByte, Checks.STATE, y -> y.decode(UTF_8, true));
        refusals.due("21: the 25th, bad", Scenes::fullWithOneByte, Checks.UNSUPPORTED, y -> y.decode(BIG, true));
    }

    /** "IllegalStateException: .. or it would have more than 60 units (the bytes stay)". */
    private static void decodeMoreThan60() {
        longDecoded("60 bytes", UTF_8, 60, Desks.times(97, 60));
        longDecoded("61 bytes", UTF_8, 61, Desks.times(97, 61));
        longDecoded("30 pairs", UTF_8, 60, repeated(30, 240, 144, 128, 128));
        longDecoded("30 pairs and one", UTF_8, 61, joined(repeated(30, 240, 144, 128, 128), 97));
        longDecoded("59 and a pair", UTF_8, 61, joined(Desks.times(97, 59), 240, 144, 128, 128));
        longDecoded("58 and a pair", UTF_8, 60, joined(Desks.times(97, 58), 240, 144, 128, 128));
        longDecoded("60 units of three", UTF_8, 60, repeated(60, 224, 160, 128));
        longDecoded("61 units of three", UTF_8, 61, repeated(61, 224, 160, 128));
        longDecoded("60 bad rows", UTF_8, 60, repeated(60, 240, 144, 128));
        longDecoded("61 bad rows", UTF_8, 61, repeated(61, 240, 144, 128));
        longDecoded("60 zeros", MODIFIED, 60, repeated(60, 192, 128));
        longDecoded("61 zeros", MODIFIED, 61, repeated(61, 192, 128));
        longDecoded("60 units of three", MODIFIED, 60, repeated(60, 237, 160, 128));
        longDecoded("61 units of three", MODIFIED, 61, repeated(61, 237, 160, 128));
        for (int encoding = BIG; encoding <= LITTLE; encoding++) {
            longDecoded("119 bytes", encoding, 60, Desks.times(97, 119));
            longDecoded("120 bytes", encoding, 60, Desks.times(97, 120));
            longDecoded("121 bytes", encoding, 61, Desks.times(97, 121));
            longDecoded("122 bytes", encoding, 61, Desks.times(97, 122));
        }
        longDecoded("60 bytes", LATIN, 60, Desks.times(255, 60));
        longDecoded("61 bytes", LATIN, 61, Desks.times(255, 61));
        refusals.due("21: strict, good", () -> typed(Desks.times(97, 61)), Checks.STATE, x -> x.decode(UTF_8, true));
        refusals.due("21: strict, bad at the end", () -> typed(joined(Desks.times(97, 61), 255)), Checks.UNSUPPORTED,
                x -> x.decode(UTF_8, true));
    }

    private static void longDecoded(String what, int encoding, int length, int... values) {
        String name = "21: " + what + " in " + encoding;
        if (length > 60) {
            refusals.due(name, () -> typed(values), Checks.STATE, x -> x.decode(encoding, false));
        } else {
            TextDesk x = typed(values);
            checks.due(name, 0, () -> x.decode(encoding, false));
            checks.due(name + ", units", length, () -> x.at(0, -1));
        }
    }

    /** 200 bytes are more than 60 units in each encoding. */
    private static void decodeMostBytes() {
        for (int encoding = UTF_8; encoding <= LATIN; encoding++) {
            int number = encoding;
            refusals.due("21: 200 bytes in " + encoding, () -> typed(Desks.times(97, 200)), Checks.STATE,
                    x -> x.decode(number, true));
        }
    }

    private static int[] repeated(int count, int... row) {
        int[] values = new int[count * row.length];
        for (int k = 0; k < values.length; k++) {
            values[k] = row[k % row.length];
        }
        return values;
    }

    private static int[] joined(int[] first, int... more) {
        int[] values = java.util.Arrays.copyOf(first, first.length + more.length);
        System.arraycopy(more, 0, values, first.length, more.length);
        return values;
    }

    /** "k = -1: how many there are". */
    private static void octetLength() {
        checks.due("22: none", 0, () -> new TextDesk().octet(-1));
        checks.due("22: 3", 3, () -> Scenes.ordinary().octet(-1));
        checks.due("22: 199", 199, () -> Scenes.nearlyFull().octet(-1));
        checks.due("22: 200", 200, () -> Scenes.full().octet(-1));
        refusals.answered("22: asking", Scenes::ordinary, x -> x.octet(-1));
    }

    /** "IndexOutOfBoundsException: there is none". */
    private static void octetNone() {
        checks.due("22: byte 0 of 3", 97, () -> Scenes.ordinary().octet(0));
        checks.due("22: byte 2 of 3", 130, () -> Scenes.ordinary().octet(2));
        for (int none : new int[] {-2, 3, 4, MIN, MAX}) {
            refusals.due("22: byte " + none + " of 3", Scenes::ordinary, Checks.BOUNDS, x -> x.octet(none));
        }
        for (int none : new int[] {-2, 0, 1}) {
            refusals.due("22: byte " + none + " of none", TextDesk::new, Checks.BOUNDS, x -> x.octet(none));
        }
        checks.due("22: byte 199 of 200", 255, () -> Scenes.full().octet(199));
        refusals.due("22: byte 199 of 199", Scenes::nearlyFull, Checks.BOUNDS, x -> x.octet(199));
        refusals.due("22: byte 200 of 200", Scenes::full, Checks.BOUNDS, x -> x.octet(200));
    }
}
