/** Promises 1 to 7: a new object and its builder. */
public final class BuilderTest {
    private static final Checks checks = new Checks();
    private static final int HIGH = 55296;
    private static final int LOW = 56320;

    public static void main(String[] args) {
        newObject();
        unit();
        insert();
        insertRefused();
        delete();
        reverse();
        built();
        take();
        checks.end();
    }

    private static void newObject() {
        TextDesk x = new TextDesk();
        checks.due("1: built(-1)", 0, () -> x.built(-1));
        checks.due("1: octet(-1)", 0, () -> x.octet(-1));
        checks.refused("1: no text 0", Checks.ARGUMENT, () -> x.at(0, -1));
        checks.due("1: the first text", 0, () -> x.take());
        checks.due("1: the first symbol", 0, () -> x.symbol(0));
        checks.due("1: another object has its own texts", 0, () -> new TextDesk().take());
    }

    private static void unit() {
        TextDesk x = new TextDesk();
        checks.due("2: unit(0)", 1, () -> x.unit(0));
        checks.due("2: unit(65535)", 2, () -> x.unit(65535));
        for (int bad : new int[] {-1, 65536, Integer.MIN_VALUE, Integer.MAX_VALUE}) {
            checks.refused("2: unit(" + bad + ")", Checks.ARGUMENT, () -> x.unit(bad));
        }
        checks.row("2: a refused unit changes nothing", Desks.built(x), 0, 65535);
        Desks.build(x, Desks.times(7, 57));
        checks.due("2: the 60th", 60, () -> x.unit(8));
        checks.refused("2: the 61st", Checks.STATE, () -> x.unit(9));
        checks.refused("2: no unit, and no room", Checks.ARGUMENT, () -> x.unit(65536));
        checks.due("2: the last one stays", 8, () -> x.built(59));
        checks.due("2: 60 stay", 60, () -> x.built(-1));
    }

    private static void insert() {
        TextDesk x = new TextDesk();
        Desks.text(x, 1, 2, 300);
        Desks.text(x);
        checks.due("3: into an empty builder", 3, () -> x.insert(0, 0));
        checks.due("3: at the end", 6, () -> x.insert(3, 0));
        checks.due("3: in the middle", 9, () -> x.insert(1, 0));
        checks.row("3: what it holds", Desks.built(x), 1, 1, 2, 300, 2, 300, 1, 2, 300);
        checks.due("3: an empty text", 9, () -> x.insert(4, 1));
        checks.due("3: at the beginning", 12, () -> x.insert(0, 0));
        checks.row("3: what it holds then", Desks.built(x), 1, 2, 300, 1, 1, 2, 300, 2, 300, 1, 2, 300);
        checks.row("3: the text stays", Desks.units(x, 0), 1, 2, 300);
    }

    private static void insertRefused() {
        TextDesk x = new TextDesk();
        Desks.text(x, 5, 6);
        Desks.text(x);
        Desks.build(x, Desks.times(4, 59));
        checks.refused("3: too many", Checks.STATE, () -> x.insert(0, 0));
        checks.refused("3: place -1", Checks.ARGUMENT, () -> x.insert(-1, 0));
        checks.refused("3: place 60 of 59, and too many", Checks.ARGUMENT, () -> x.insert(60, 0));
        checks.refused("3: text 2", Checks.ARGUMENT, () -> x.insert(0, 2));
        checks.refused("3: text -1", Checks.ARGUMENT, () -> x.insert(0, -1));
        checks.row("3: refused, nothing changes", Desks.built(x), Desks.times(4, 59));
        x.unit(4);
        checks.due("3: an empty text into a full builder", 60, () -> x.insert(60, 1));
        x.delete(0, 2);
        checks.due("3: up to 60", 60, () -> x.insert(58, 0));
        checks.due("3: the last one", 6, () -> x.built(59));
    }

    private static void delete() {
        TextDesk x = new TextDesk();
        Desks.build(x, 1, 2, 3, 4, 5);
        x.delete(1, 3);
        checks.row("4: from the middle", Desks.built(x), 1, 4, 5);
        x.delete(2, 2);
        x.delete(3, 3);
        checks.row("4: none", Desks.built(x), 1, 4, 5);
        checks.refused("4: from -1", Checks.BOUNDS, () -> x.delete(-1, 2));
        checks.refused("4: from above to", Checks.BOUNDS, () -> x.delete(2, 1));
        checks.refused("4: to above the length", Checks.BOUNDS, () -> x.delete(0, 4));
        checks.refused("4: far out", Checks.BOUNDS, () -> x.delete(Integer.MIN_VALUE, Integer.MAX_VALUE));
        checks.row("4: refused, nothing changes", Desks.built(x), 1, 4, 5);
        x.delete(2, 3);
        checks.row("4: at the end", Desks.built(x), 1, 4);
        x.delete(0, 2);
        checks.row("4: all", Desks.built(x));
        x.delete(0, 0);
        checks.refused("4: of an empty builder", Checks.BOUNDS, () -> x.delete(0, 1));
        checks.due("4: the builder goes on", 1, () -> x.unit(9));
    }

    private static void reverse() {
        checks.row("5: empty", reversed());
        checks.row("5: one", reversed(7), 7);
        checks.row("5: ordinary units", reversed(1, 2, 300, 4), 4, 300, 2, 1);
        checks.row("5: a pair alone", reversed(HIGH, LOW), HIGH, LOW);
        checks.row("5: two pairs", reversed(HIGH, LOW, HIGH + 1, LOW + 1), HIGH + 1, LOW + 1, HIGH, LOW);
        checks.row("5: pairs at both ends", reversed(HIGH, LOW, 5, HIGH, LOW + 9), HIGH, LOW + 9, 5, HIGH, LOW);
        checks.row("5: low and high become a pair", reversed(LOW, HIGH), HIGH, LOW);
        checks.row("5: a lone low one behind a pair", reversed(HIGH, LOW, LOW + 1), LOW + 1, HIGH, LOW);
        checks.row("5: a lone high one before a pair", reversed(HIGH, HIGH + 1, LOW), HIGH + 1, LOW, HIGH);
        checks.row("5: the edges of high and low", reversed(56319, 57343), 56319, 57343);
        checks.row("5: just outside", reversed(55295, 56320, 56319, 57344), 57344, 56319, 56320, 55295);
    }

    private static int[] reversed(int... units) {
        TextDesk x = new TextDesk();
        Desks.build(x, units);
        x.delete(0, 0);
        x.reverse();
        return Desks.built(x);
    }

    private static void built() {
        TextDesk x = new TextDesk();
        checks.refused("6: unit 0 of none", Checks.BOUNDS, () -> x.built(0));
        Desks.build(x, 11, 65535);
        checks.due("6: how many", 2, () -> x.built(-1));
        checks.due("6: the first", 11, () -> x.built(0));
        checks.due("6: the last", 65535, () -> x.built(1));
        for (int bad : new int[] {-2, 2, 60, Integer.MIN_VALUE, Integer.MAX_VALUE}) {
            checks.refused("6: unit " + bad, Checks.BOUNDS, () -> x.built(bad));
        }
        x.delete(1, 2);
        checks.refused("6: a unit that is gone", Checks.BOUNDS, () -> x.built(1));
    }

    private static void take() {
        TextDesk x = new TextDesk();
        Desks.build(x, 1, 2);
        checks.due("7: the first", 0, () -> x.take());
        checks.due("7: the builder is empty", 0, () -> x.built(-1));
        checks.due("7: an empty text", 1, () -> x.take());
        Desks.build(x, 3);
        checks.row("7: a text does not change", Desks.units(x, 0), 1, 2);
        checks.row("7: the empty one", Desks.units(x, 1));
        for (int number = 2; number < 24; number++) {
            checks.due("7: text " + number, number, () -> x.take());
        }
        x.unit(4);
        checks.refused("7: there are 24", Checks.STATE, () -> x.take());
        checks.row("7: refused, the builder stays", Desks.built(x), 4);
        checks.row("7: and the texts do", Desks.units(x, 2), 3);
    }
}
