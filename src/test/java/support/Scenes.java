/**
 * Desks to begin a boundary case with, made anew for each look. Each is made in fewer than 200 calls, so that
 * a call and a look at what it left stay within the 512 that an object is used for.
 */
final class Scenes {
    interface Scene {
        TextDesk make();
    }

    static final int HIGH = 55296;
    static final int LOW = 56320;

    /** How many texts the ordinary desk has, and how many calls make it. */
    static final int ORDINARY_TEXTS = 5;
    static final int ORDINARY_CALLS = 25;
    /** Texts that the nearly full desk and the full one have; those from 2 on are one unit each, their number. */
    static final int EMPTY_TEXT = 0;
    static final int LONG_TEXT = 1;
    static final int SHORT_TEXT = 2;

    private Scenes() {
    }

    /**
     * Texts: 0 is abc, 1 is a, 300 and a pair, 2 is empty, 3 is 0 and 1 joined, 4 is b between two spaces.
     * Text 1 has symbol 0, and 0 has 1. The builder holds 5 units with a pair at 1. There are 3 bytes; they are
     * bad at their end in UTF-8, MODIFIED, BIG and LITTLE.
     */
    static TextDesk ordinary() {
        TextDesk desk = new TextDesk();
        Desks.text(desk, "abc");
        Desks.text(desk, 97, 300, HIGH, LOW);
        Desks.text(desk);
        desk.join(0, 1);
        Desks.text(desk, 32, 98, 32);
        desk.symbol(1);
        desk.symbol(0);
        Desks.build(desk, 1, HIGH, LOW, 65535, 0);
        Desks.type(desk, 97, 226, 130);
        return desk;
    }

    /** 23 texts, 15 symbols (of texts 0 to 14), 59 units in the builder, 199 bytes: one more of each is allowed. */
    static TextDesk nearlyFull() {
        return filled(23, 15, 59, 199);
    }

    /** 24 texts, 16 symbols (of texts 0 to 15), 60 units in the builder, 200 bytes: no more of any is allowed. */
    static TextDesk full() {
        return filled(24, 16, 60, 200);
    }

    /** As full, but there is only one byte, which is good in UTF-8, MODIFIED and LATIN. */
    static TextDesk fullWithOneByte() {
        TextDesk desk = full();
        desk.encode(SHORT_TEXT, 4);
        return desk;
    }

    private static TextDesk filled(int texts, int symbols, int units, int values) {
        TextDesk desk = new TextDesk();
        Desks.text(desk);
        Desks.text(desk, Desks.times(2048, 60));
        for (int k = SHORT_TEXT; k < texts; k++) {
            Desks.text(desk, k);
        }
        for (int k = 0; k < symbols; k++) {
            desk.symbol(k);
        }
        desk.insert(0, LONG_TEXT);
        desk.delete(units, 60);
        int encoded = desk.encode(LONG_TEXT, 1);
        Desks.type(desk, Desks.times(255, values - encoded));
        return desk;
    }
}
