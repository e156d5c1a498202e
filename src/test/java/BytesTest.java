/** Promises 19 to 22: bytes in five encodings, both ways. */
public final class BytesTest {
    private static final Checks checks = new Checks();
    private static final int HIGH = 55296;
    private static final int LOW = 56320;
    private static final int BAD = 65533;
    private static final int UTF_8 = 0;
    private static final int MODIFIED = 1;
    private static final int BIG = 2;
    private static final int LITTLE = 3;
    private static final int LATIN = 4;

    public static void main(String[] args) {
        encode();
        encodeRefused();
        encodeLongest();
        type();
        decodeUtf8();
        decodeModified();
        decodeOthers();
        decodeStrict();
        decodeRefused();
        decodeOrder();
        octet();
        checks.end();
    }

    private static void encode() {
        checks.row("19: UTF-8", encoded(UTF_8, 0, 127, 128, 2047, 2048, 65535),
                0, 127, 194, 128, 223, 191, 224, 160, 128, 239, 191, 191);
        checks.row("19: UTF-8 pairs", encoded(UTF_8, HIGH, LOW, 56319, 57343), 240, 144, 128, 128, 244, 143, 191, 191);
        checks.row("19: UTF-8 53248 and 262144", encoded(UTF_8, 53248, 55488, LOW), 237, 128, 128, 241, 128, 128, 128);
        checks.row("19: UTF-8 lone units", encoded(UTF_8, LOW, HIGH, 97, HIGH), 63, 63, 97, 63);
        checks.row("19: UTF-8 high before a pair", encoded(UTF_8, HIGH, HIGH, LOW, LOW), 63, 240, 144, 128, 128, 63);
        checks.row("19: MODIFIED", encoded(MODIFIED, 0, 1, 127, 128, 2047, 2048, 65535),
                192, 128, 1, 127, 194, 128, 223, 191, 224, 160, 128, 239, 191, 191);
        checks.row("19: MODIFIED pair", encoded(MODIFIED, HIGH, LOW), 237, 160, 128, 237, 176, 128);
        checks.row("19: BIG", encoded(BIG, 0, 255, 256, HIGH, 65535), 0, 0, 0, 255, 1, 0, 216, 0, 255, 255);
        checks.row("19: LITTLE", encoded(LITTLE, 0, 255, 256, HIGH, 65535), 0, 0, 255, 0, 0, 1, 0, 216, 255, 255);
        checks.row("19: LATIN", encoded(LATIN, 0, 128, 255, 256, 65535), 0, 128, 255, 63, 63);
        checks.row("19: LATIN pairs and lone units", encoded(LATIN, HIGH, LOW, LOW, HIGH, 97), 63, 63, 63, 97);
        for (int encoding = UTF_8; encoding <= LATIN; encoding++) {
            checks.row("19: none in " + encoding, encoded(encoding));
        }
    }

    private static int[] encoded(int encoding, int... units) {
        TextDesk x = new TextDesk();
        Desks.text(x, units);
        Desks.type(x, 1, 2, 3);
        int count = x.encode(0, encoding);
        checks.due("19: how many", count, () -> x.octet(-1));
        return Desks.octets(x);
    }

    private static void encodeRefused() {
        TextDesk x = new TextDesk();
        Desks.text(x, 97);
        Desks.type(x, 5, 6);
        checks.refused("19: encoding -1", Checks.ARGUMENT, () -> x.encode(0, -1));
        checks.refused("19: encoding 5", Checks.ARGUMENT, () -> x.encode(0, 5));
        checks.refused("19: no such text", Checks.ARGUMENT, () -> x.encode(1, 0));
        checks.refused("19: text -1", Checks.ARGUMENT, () -> x.encode(-1, 0));
        checks.row("19: refused, the bytes stay", Desks.octets(x), 5, 6);
    }

    private static void encodeLongest() {
        TextDesk x = new TextDesk();
        Desks.text(x, Desks.times(2048, 60));
        checks.due("19: 60 units of three bytes", 180, () -> x.encode(0, MODIFIED));
        checks.due("19: the last one", 128, () -> x.octet(179));
        checks.due("21: and back", 1, () -> x.decode(MODIFIED, true));
        checks.due("21: the same text", 0, () -> x.compare(0, 1));
    }

    private static void type() {
        TextDesk x = new TextDesk();
        checks.due("20: 0", 1, () -> x.type(0));
        checks.due("20: 255", 2, () -> x.type(255));
        checks.refused("20: -1", Checks.ARGUMENT, () -> x.type(-1));
        checks.refused("20: 256", Checks.ARGUMENT, () -> x.type(256));
        checks.row("20: what there is", Desks.octets(x), 0, 255);
        Desks.type(x, Desks.times(9, 197));
        checks.due("20: the 200th", 200, () -> x.type(8));
        checks.refused("20: the 201st", Checks.STATE, () -> x.type(7));
        checks.refused("20: no byte, and no room", Checks.ARGUMENT, () -> x.type(256));
        checks.due("20: the last one stays", 8, () -> x.octet(199));
        checks.due("20: 200 stay", 200, () -> x.octet(-1));
        TextDesk y = new TextDesk();
        Desks.text(y, 97);
        y.encode(0, BIG);
        checks.due("20: behind an encoded text", 3, () -> y.type(4));
        checks.row("20: what there is then", Desks.octets(y), 0, 97, 4);
    }

    private static void decodeUtf8() {
        checks.row("21: none", decoded(UTF_8));
        checks.row("21: good", decoded(UTF_8, 0, 127, 194, 128, 239, 191, 191), 0, 127, 128, 65535);
        checks.row("21: four bytes", decoded(UTF_8, 240, 144, 128, 128, 244, 143, 191, 191), HIGH, LOW, 56319, 57343);
        checks.row("21: none begins so", decoded(UTF_8, 128, 191, 192, 193, 245, 255), BAD, BAD, BAD, BAD, BAD, BAD);
        checks.row("21: cut off", decoded(UTF_8, 240, 159, 152), BAD);
        checks.row("21: broken off", decoded(UTF_8, 240, 159, 152, 97, 226, 130, 194, 97), BAD, 97, BAD, BAD, 97);
        checks.row("21: too long a form", decoded(UTF_8, 224, 159, 191, 240, 143), BAD, BAD, BAD, BAD, BAD);
        checks.row("21: a high unit", decoded(UTF_8, 237, 160, 128), BAD, BAD, BAD);
        checks.row("21: beside the high units", decoded(UTF_8, 237, 159, 191, 238, 128, 128), 55295, 57344);
        checks.row("21: above all", decoded(UTF_8, 244, 144, 128, 128), BAD, BAD, BAD, BAD);
        checks.row("21: far above all", decoded(UTF_8, 245, 128, 128, 128), BAD, BAD, BAD, BAD);
        checks.row("21: 192 goes on with nothing", decoded(UTF_8, 194, 192, 226, 130, 192), BAD, BAD, BAD, BAD);
        checks.row("21: a low unit that is not 0", decoded(UTF_8, 240, 144, 128, 129), HIGH, LOW + 1);
        checks.row("21: 65533 itself is good", decoded(UTF_8, 239, 191, 189), BAD);
    }

    private static void decodeModified() {
        checks.row("21: MODIFIED good", decoded(MODIFIED, 192, 128, 1, 194, 128, 224, 160, 128), 0, 1, 128, 2048);
        checks.row("21: MODIFIED high and low", decoded(MODIFIED, 237, 160, 128, 237, 191, 191), HIGH, 57343);
        checks.row("21: MODIFIED 0 is bad", decoded(MODIFIED, 0, 97), BAD, 97);
        checks.row("21: MODIFIED 192 alone", decoded(MODIFIED, 192, 129, 192), BAD, BAD, BAD);
        checks.row("21: MODIFIED 193", decoded(MODIFIED, 193, 128), BAD, BAD);
        checks.row("21: MODIFIED cut off", decoded(MODIFIED, 224, 160, 97, 239, 191), BAD, 97, BAD);
        checks.row("21: MODIFIED 194, 192", decoded(MODIFIED, 194, 192, 128), BAD, 0);
        checks.row("21: MODIFIED four bytes", decoded(MODIFIED, 240, 144, 128, 128), BAD, BAD, BAD, BAD);
    }

    private static void decodeOthers() {
        checks.row("21: BIG", decoded(BIG, 0, 97, 216, 0, 255, 255), 97, HIGH, 65535);
        checks.row("21: BIG, one at the end", decoded(BIG, 0, 97, 5), 97, BAD);
        checks.row("21: LITTLE", decoded(LITTLE, 97, 0, 0, 216, 255, 255), 97, HIGH, 65535);
        checks.row("21: LITTLE, one at the end", decoded(LITTLE, 5), BAD);
        checks.row("21: LATIN", decoded(LATIN, 0, 63, 128, 255), 0, 63, 128, 255);
        for (int encoding = BIG; encoding <= LATIN; encoding++) {
            checks.row("21: none in " + encoding, decoded(encoding));
        }
    }

    private static int[] decoded(int encoding, int... values) {
        TextDesk x = new TextDesk();
        x.take();
        Desks.type(x, values);
        checks.due("21: its number", 1, () -> x.decode(encoding, false));
        checks.due("21: the bytes are none", 0, () -> x.octet(-1));
        return Desks.units(x, 1);
    }

    private static void decodeStrict() {
        TextDesk x = new TextDesk();
        Desks.type(x, 97, 239, 191, 189);
        checks.due("21: strict, all good", 0, () -> x.decode(UTF_8, true));
        checks.row("21: strict, its units", Desks.units(x, 0), 97, 65533);
        checks.due("21: strict, no bytes", 1, () -> x.decode(UTF_8, true));
        Desks.type(x, 97, 98, 255);
        for (int encoding = UTF_8; encoding <= LITTLE; encoding++) {
            int refused = encoding;
            checks.refused("21: strict, bad in " + encoding, Checks.UNSUPPORTED, () -> x.decode(refused, true));
        }
        checks.row("21: refused, the bytes stay", Desks.octets(x), 97, 98, 255);
        checks.refused("21: refused, no text is made", Checks.ARGUMENT, () -> x.at(2, -1));
        checks.due("21: strict, LATIN is never bad", 2, () -> x.decode(LATIN, true));
    }

    private static void decodeRefused() {
        TextDesk x = new TextDesk();
        Desks.type(x, Desks.times(97, 61));
        checks.refused("21: encoding -1", Checks.ARGUMENT, () -> x.decode(-1, false));
        checks.refused("21: encoding 5", Checks.ARGUMENT, () -> x.decode(5, true));
        checks.refused("21: 61 units", Checks.STATE, () -> x.decode(UTF_8, false));
        checks.due("21: refused, the bytes stay", 61, () -> x.octet(-1));
        checks.due("21: 31 units", 0, () -> x.decode(BIG, false));
        checks.due("21: the last one is bad", BAD, () -> x.at(0, 30));
        Desks.type(x, Desks.times(97, 58));
        Desks.type(x, 240, 144, 128, 128);
        checks.due("21: 60 units with a pair", 1, () -> x.decode(UTF_8, true));
        Desks.type(x, Desks.times(97, 59));
        Desks.type(x, 240, 144, 128, 128);
        checks.refused("21: a pair over the limit", Checks.STATE, () -> x.decode(UTF_8, true));
        Desks.fillTexts(x, 2);
        checks.refused("21: there are 24", Checks.STATE, () -> x.decode(BIG, false));
        checks.due("21: refused, the bytes stay again", 63, () -> x.octet(-1));
    }

    /** The document names UnsupportedOperationException before IllegalStateException. */
    private static void decodeOrder() {
        TextDesk x = new TextDesk();
        Desks.type(x, Desks.times(97, 61));
        x.type(255);
        checks.refused("21: bad behind 61 units", Checks.UNSUPPORTED, () -> x.decode(UTF_8, true));
        checks.refused("21: not strict", Checks.STATE, () -> x.decode(UTF_8, false));
        Desks.fillTexts(x, 0);
        checks.refused("21: bad, and there are 24", Checks.UNSUPPORTED, () -> x.decode(UTF_8, true));
        checks.refused("21: no encoding, and there are 24", Checks.ARGUMENT, () -> x.decode(5, true));
        checks.due("21: refused, the bytes stay", 62, () -> x.octet(-1));
    }

    private static void octet() {
        TextDesk x = new TextDesk();
        checks.due("22: none", 0, () -> x.octet(-1));
        checks.refused("22: byte 0 of none", Checks.BOUNDS, () -> x.octet(0));
        Desks.type(x, 128, 255, 0);
        checks.due("22: how many", 3, () -> x.octet(-1));
        checks.due("22: byte 0", 128, () -> x.octet(0));
        checks.due("22: byte 1", 255, () -> x.octet(1));
        checks.due("22: byte 2", 0, () -> x.octet(2));
        for (int bad : new int[] {-2, 3, 200, Integer.MIN_VALUE, Integer.MAX_VALUE}) {
            checks.refused("22: byte " + bad, Checks.BOUNDS, () -> x.octet(bad));
        }
    }
}
