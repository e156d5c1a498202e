/** What the tests do with a desk again and again. */
final class Desks {
    private Desks() {
    }

    static void build(TextDesk desk, int... units) {
        for (int unit : units) {
            desk.unit(unit);
        }
    }

    /** A new text; the builder must be empty before, and is afterwards. */
    static int text(TextDesk desk, int... units) {
        build(desk, units);
        return desk.take();
    }

    static int text(TextDesk desk, String units) {
        return text(desk, units.chars().toArray());
    }

    /** A new desk that has these texts. */
    static TextDesk with(String... texts) {
        TextDesk desk = new TextDesk();
        for (String text : texts) {
            text(desk, text);
        }
        return desk;
    }

    static int[] times(int unit, int count) {
        int[] row = new int[count];
        java.util.Arrays.fill(row, unit);
        return row;
    }

    /** Makes empty texts until there are 24. */
    static void fillTexts(TextDesk desk, int have) {
        for (int k = have; k < 24; k++) {
            desk.take();
        }
    }

    static void type(TextDesk desk, int... values) {
        for (int value : values) {
            desk.type(value);
        }
    }

    static int[] units(TextDesk desk, int text) {
        int[] row = new int[desk.at(text, -1)];
        for (int k = 0; k < row.length; k++) {
            row[k] = desk.at(text, k);
        }
        return row;
    }

    static int[] built(TextDesk desk) {
        int[] row = new int[desk.built(-1)];
        for (int k = 0; k < row.length; k++) {
            row[k] = desk.built(k);
        }
        return row;
    }

    static int[] octets(TextDesk desk) {
        int[] row = new int[desk.octet(-1)];
        for (int k = 0; k < row.length; k++) {
            row[k] = desk.octet(k);
        }
        return row;
    }
}
