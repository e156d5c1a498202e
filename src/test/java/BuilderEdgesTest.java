/** Promises 1 to 7: a test for each sentence of theirs that names a boundary case. */
public final class BuilderEdgesTest {
    private static final Checks checks = new Checks();
    private static final Refusals refusals = new Refusals(checks);
    private static final int MIN = Integer.MIN_VALUE;
    private static final int MAX = Integer.MAX_VALUE;
    private static final int HIGH = Scenes.HIGH;
    private static final int LOW = Scenes.LOW;

    public static void main(String[] args) {
        newHasNoTexts();
        newHasAnEmptyBuilder();
        newHasNoBytes();
        newHasNoSymbols();
        unitIsNone();
        unitWhenItHolds60();
        insertBeforeAPlaceOrAtItsEnd();
        insertNoSuchText();
        insertNoSuchPlace();
        insertMoreThan60();
        deleteNoneOrAll();
        deleteFromBelow0();
        deleteFromAboveTo();
        deleteToAboveItsLength();
        reverseShortest();
        reverseLongest();
        reversePairsStay();
        builtLength();
        builtNone();
        takeEmptyAndFull();
        takeWhenThereAre24();
        checks.end();
    }

    /** "No texts". */
    private static void newHasNoTexts() {
        noText("insert(0, 0)", x -> x.insert(0, 0));
        noText("join(0, 0)", x -> x.join(0, 0));
        noText("part(0, 0, 0)", x -> x.part(0, 0, 0));
        noText("replace(0, 0, 0)", x -> x.replace(0, 0, 0));
        noText("strip(0)", x -> x.strip(0));
        noText("at(0, -1)", x -> x.at(0, -1));
        noText("character(0, -1)", x -> x.character(0, -1));
        noText("narrow(0)", x -> x.narrow(0));
        noText("hash(0)", x -> x.hash(0));
        noText("compare(0, 0)", x -> x.compare(0, 0));
        noText("find(0, 0, 0, false)", x -> x.find(0, 0, 0, false));
        noText("symbol(0)", x -> x.symbol(0));
        noText("encode(0, 0)", x -> x.encode(0, 0));
        checks.due("1: the first text is 0", 0, () -> new TextDesk().take());
    }

    private static void noText(String call, Refusals.Call act) {
        refusals.due("1: new, " + call, TextDesk::new, Checks.ARGUMENT, act);
    }

    /** "an empty builder". */
    private static void newHasAnEmptyBuilder() {
        TextDesk x = new TextDesk();
        checks.due("1: built(-1) of a new one", 0, () -> x.built(-1));
        checks.refused("1: built(0) of a new one", Checks.BOUNDS, () -> x.built(0));
        x.take();
        checks.row("1: what it takes", Desks.units(x, 0));
        checks.due("1: the first unit", 1, () -> new TextDesk().unit(0));
    }

    /** "no bytes". */
    private static void newHasNoBytes() {
        TextDesk x = new TextDesk();
        checks.due("1: octet(-1) of a new one", 0, () -> x.octet(-1));
        checks.refused("1: octet(0) of a new one", Checks.BOUNDS, () -> x.octet(0));
        for (int encoding = 0; encoding <= 4; encoding++) {
            int number = encoding;
            checks.due("1: decoded in " + encoding, number, () -> x.decode(number, true));
            checks.row("1: its units", Desks.units(x, number));
        }
        checks.due("1: the first byte", 1, () -> new TextDesk().type(0));
    }

    /** "no symbols". */
    private static void newHasNoSymbols() {
        TextDesk x = new TextDesk();
        x.take();
        checks.due("1: the first symbol, of the empty text", 0, () -> x.symbol(0));
    }

    /** "IllegalArgumentException: it is none", where "a unit is 0 .. 65535". */
    private static void unitIsNone() {
        TextDesk x = new TextDesk();
        checks.due("2: unit(0)", 1, () -> x.unit(0));
        checks.due("2: unit(65535)", 2, () -> x.unit(65535));
        checks.row("2: 0 and 65535", Desks.built(x), 0, 65535);
        for (int none : new int[] {-1, 65536, MIN, MAX}) {
            refusals.due("2: unit(" + none + ")", Scenes::ordinary, Checks.ARGUMENT, y -> y.unit(none));
            refusals.due("2: unit(" + none + ") of an empty one", TextDesk::new, Checks.ARGUMENT, y -> y.unit(none));
            refusals.due("2: unit(" + none + ") of a full one", Scenes::full, Checks.ARGUMENT, y -> y.unit(none));
        }
    }

    /** "IllegalStateException: it holds 60". */
    private static void unitWhenItHolds60() {
        TextDesk x = Scenes.nearlyFull();
        checks.due("2: the 60th", 60, () -> x.unit(9));
        checks.due("2: it is there", 9, () -> x.built(59));
        refusals.due("2: the 61st, 0", Scenes::full, Checks.STATE, y -> y.unit(0));
        refusals.due("2: the 61st, 65535", Scenes::full, Checks.STATE, y -> y.unit(65535));
        TextDesk again = Scenes.full();
        again.delete(0, 1);
        checks.due("2: the 60th again", 60, () -> again.unit(9));
        checks.refused("2: the 61st again", Checks.STATE, () -> again.unit(9));
    }

    /** "before the unit at a place (or at its end)". */
    private static void insertBeforeAPlaceOrAtItsEnd() {
        checks.row("3: before the first", inserted(0, 8, 9), 8, 9, 1, 2, 3);
        checks.row("3: before the last", inserted(2, 8, 9), 1, 2, 8, 9, 3);
        checks.row("3: at the end", inserted(3, 8, 9), 1, 2, 3, 8, 9);
        for (int place = 0; place <= 3; place++) {
            checks.row("3: an empty text at " + place, inserted(place), 1, 2, 3);
        }
        TextDesk x = new TextDesk();
        Desks.text(x, 8, 9);
        checks.due("3: into an empty one", 2, () -> x.insert(0, 0));
        checks.row("3: what it holds", Desks.built(x), 8, 9);
        TextDesk y = new TextDesk();
        y.take();
        checks.due("3: an empty text into an empty one", 0, () -> y.insert(0, 0));
    }

    private static int[] inserted(int place, int... units) {
        TextDesk x = new TextDesk();
        Desks.text(x, units);
        Desks.build(x, 1, 2, 3);
        checks.due("3: how many", 3 + units.length, () -> x.insert(place, 0));
        return Desks.built(x);
    }

    /** "IllegalArgumentException: no such text .." */
    private static void insertNoSuchText() {
        for (int none : new int[] {-1, Scenes.ORDINARY_TEXTS, 24, MIN, MAX}) {
            refusals.due("3: text " + none, Scenes::ordinary, Checks.ARGUMENT, x -> x.insert(0, none));
        }
        checks.due("3: the last text", 8, () -> Scenes.ordinary().insert(5, Scenes.ORDINARY_TEXTS - 1));
        refusals.due("3: text 24 of 24", Scenes::full, Checks.ARGUMENT, x -> x.insert(0, 24));
        refusals.due("3: no text and no place", Scenes::full, Checks.ARGUMENT, x -> x.insert(-1, -1));
    }

    /** "IllegalArgumentException: no such .. place". */
    private static void insertNoSuchPlace() {
        for (int none : new int[] {-1, 6, MIN, MAX}) {
            refusals.due("3: place " + none + " of 5", Scenes::ordinary, Checks.ARGUMENT, x -> x.insert(none, 0));
            refusals.due("3: place " + none + ", no units", Scenes::ordinary, Checks.ARGUMENT, x -> x.insert(none, 2));
        }
        Scenes.Scene empty = () -> {
            TextDesk x = new TextDesk();
            Desks.text(x, 5);
            return x;
        };
        refusals.due("3: place 1 of 0", empty, Checks.ARGUMENT, x -> x.insert(1, 0));
        refusals.due("3: place -1 of 0", empty, Checks.ARGUMENT, x -> x.insert(-1, 0));
        refusals.due("3: place 61 of 60, and more than 60", Scenes::full, Checks.ARGUMENT,
                x -> x.insert(61, Scenes.SHORT_TEXT));
        refusals.due("3: place -1, and more than 60", Scenes::full, Checks.ARGUMENT,
                x -> x.insert(-1, Scenes.LONG_TEXT));
    }

    /** "IllegalStateException: it would hold more than 60". */
    private static void insertMoreThan60() {
        for (int place : new int[] {0, 30, 59}) {
            TextDesk x = Scenes.nearlyFull();
            checks.due("3: 60, at " + place, 60, () -> x.insert(place, Scenes.SHORT_TEXT));
            checks.due("3: it is there", Scenes.SHORT_TEXT, () -> x.built(place));
            refusals.due("3: 61, at " + place, Scenes::full, Checks.STATE, y -> y.insert(place, Scenes.SHORT_TEXT));
        }
        checks.due("3: 60 and no more", 60, () -> Scenes.full().insert(60, Scenes.EMPTY_TEXT));
        refusals.due("3: 61, at the end", Scenes::full, Checks.STATE, x -> x.insert(60, Scenes.SHORT_TEXT));
        refusals.due("3: 120", Scenes::full, Checks.STATE, x -> x.insert(0, Scenes.LONG_TEXT));
        refusals.due("3: 119", Scenes::nearlyFull, Checks.STATE, x -> x.insert(59, Scenes.LONG_TEXT));
        TextDesk x = Scenes.nearlyFull();
        x.delete(1, 59);
        checks.refused("3: 61, a long text", Checks.STATE, () -> x.insert(0, Scenes.LONG_TEXT));
        x.delete(0, 1);
        checks.due("3: 60, a long text", 60, () -> x.insert(0, Scenes.LONG_TEXT));
    }

    /** "from a place on, before another one". */
    private static void deleteNoneOrAll() {
        checks.row("4: none at 0", deleted(0, 0), 1, 2, 3);
        checks.row("4: none at 1", deleted(1, 1), 1, 2, 3);
        checks.row("4: none at the length", deleted(3, 3), 1, 2, 3);
        checks.row("4: the first", deleted(0, 1), 2, 3);
        checks.row("4: the last", deleted(2, 3), 1, 2);
        checks.row("4: all", deleted(0, 3));
        TextDesk empty = new TextDesk();
        empty.delete(0, 0);
        checks.due("4: none of none", 0, () -> empty.built(-1));
        TextDesk full = Scenes.full();
        full.delete(60, 60);
        checks.due("4: none of 60", 60, () -> full.built(-1));
        full.delete(59, 60);
        checks.due("4: the 60th", 59, () -> full.built(-1));
        full.delete(0, 59);
        checks.due("4: all others", 0, () -> full.built(-1));
    }

    private static int[] deleted(int from, int to) {
        TextDesk x = new TextDesk();
        Desks.build(x, 1, 2, 3);
        x.delete(from, to);
        return Desks.built(x);
    }

    /** "IndexOutOfBoundsException: from is below 0 ..". */
    private static void deleteFromBelow0() {
        deleteRefused(-1, -1);
        deleteRefused(-1, 0);
        deleteRefused(-1, 5);
        deleteRefused(-1, 6);
        deleteRefused(MIN, 3);
        deleteRefused(MIN, MIN);
        refusals.due("4: delete(-1, 0) of none", TextDesk::new, Checks.BOUNDS, x -> x.delete(-1, 0));
        refusals.due("4: delete(-1, 60) of 60", Scenes::full, Checks.BOUNDS, x -> x.delete(-1, 60));
    }

    /** "IndexOutOfBoundsException: from is .. above to". */
    private static void deleteFromAboveTo() {
        deleteRefused(1, 0);
        deleteRefused(5, 4);
        deleteRefused(5, 0);
        deleteRefused(0, -1);
        deleteRefused(6, 5);
        deleteRefused(0, MIN);
        deleteRefused(MAX, MIN);
        refusals.due("4: delete(1, 0) of none", TextDesk::new, Checks.BOUNDS, x -> x.delete(1, 0));
        refusals.due("4: delete(60, 59) of 60", Scenes::full, Checks.BOUNDS, x -> x.delete(60, 59));
    }

    /** "IndexOutOfBoundsException: .. or to is above its length". */
    private static void deleteToAboveItsLength() {
        deleteRefused(0, 6);
        deleteRefused(5, 6);
        deleteRefused(6, 6);
        deleteRefused(0, MAX);
        deleteRefused(MIN, MAX);
        deleteRefused(MAX, MAX);
        refusals.due("4: delete(0, 1) of none", TextDesk::new, Checks.BOUNDS, x -> x.delete(0, 1));
        refusals.due("4: delete(1, 1) of none", TextDesk::new, Checks.BOUNDS, x -> x.delete(1, 1));
        refusals.due("4: delete(0, 60) of 59", Scenes::nearlyFull, Checks.BOUNDS, x -> x.delete(0, 60));
        refusals.due("4: delete(0, 61) of 60", Scenes::full, Checks.BOUNDS, x -> x.delete(0, 61));
        refusals.due("4: delete(61, 61) of 60", Scenes::full, Checks.BOUNDS, x -> x.delete(61, 61));
    }

    private static void deleteRefused(int from, int to) {
        refusals.due("4: delete(" + from + ", " + to + ") of 5", Scenes::ordinary, Checks.BOUNDS,
                x -> x.delete(from, to));
    }

    /** "Turns the builder round", an empty one, and one of a single unit. */
    private static void reverseShortest() {
        refusals.answered("5: an empty one", TextDesk::new, x -> x.reverse());
        checks.row("5: one unit", reversed(7), 7);
        checks.row("5: one high unit", reversed(HIGH), HIGH);
        checks.row("5: one low unit", reversed(LOW), LOW);
        checks.row("5: two units", reversed(1, 2), 2, 1);
    }

    /** "Turns the builder round", a full one. */
    private static void reverseLongest() {
        int[] units = new int[60];
        int[] due = new int[60];
        int[] pairs = new int[60];
        int[] pairsDue = new int[60];
        for (int k = 0; k < 60; k++) {
            units[k] = 1000 + k;
            due[59 - k] = 1000 + k;
            pairs[k] = k % 2 == 0 ? HIGH + k : LOW + k;
            pairsDue[58 - k / 2 * 2 + k % 2] = pairs[k];
        }
        checks.row("5: 60 units", reversed(units), due);
        checks.row("5: 30 pairs", reversed(pairs), pairsDue);
    }

    /** "pairs stay as they are", at the edges of the builder and of what is a pair. */
    private static void reversePairsStay() {
        checks.row("5: a pair at the beginning", reversed(HIGH, LOW, 1), 1, HIGH, LOW);
        checks.row("5: a pair at the end", reversed(1, HIGH, LOW), HIGH, LOW, 1);
        checks.row("5: lowest and highest pair", reversed(55296, 56320, 56319, 57343), 56319, 57343, 55296, 56320);
        checks.row("5: 55295 is not high", reversed(55295, LOW), LOW, 55295);
        checks.row("5: 57344 is not low", reversed(HIGH, 57344), 57344, HIGH);
        checks.row("5: two high ones", reversed(HIGH, 56319), 56319, HIGH);
        checks.row("5: two low ones", reversed(LOW, 57343), 57343, LOW);
        checks.row("5: a high one at the end", reversed(LOW, 1, HIGH), HIGH, 1, LOW);
        checks.row("5: low and high were no pair", reversed(LOW, HIGH), HIGH, LOW);
    }

    private static int[] reversed(int... units) {
        TextDesk x = new TextDesk();
        Desks.build(x, units);
        x.reverse();
        return Desks.built(x);
    }

    /** "k = -1: how many it holds". */
    private static void builtLength() {
        checks.due("6: none", 0, () -> new TextDesk().built(-1));
        checks.due("6: 59", 59, () -> Scenes.nearlyFull().built(-1));
        checks.due("6: 60", 60, () -> Scenes.full().built(-1));
        refusals.answered("6: asking", Scenes::ordinary, x -> x.built(-1));
    }

    /** "IndexOutOfBoundsException: there is none". */
    private static void builtNone() {
        checks.due("6: unit 0 of 5", 1, () -> Scenes.ordinary().built(0));
        checks.due("6: unit 3 of 5", 65535, () -> Scenes.ordinary().built(3));
        checks.due("6: unit 4 of 5, which is 0", 0, () -> Scenes.ordinary().built(4));
        for (int none : new int[] {-2, 5, 6, MIN, MAX}) {
            refusals.due("6: unit " + none + " of 5", Scenes::ordinary, Checks.BOUNDS, x -> x.built(none));
        }
        for (int none : new int[] {-2, 0, 1}) {
            refusals.due("6: unit " + none + " of none", TextDesk::new, Checks.BOUNDS, x -> x.built(none));
        }
        checks.due("6: unit 59 of 60", 2048, () -> Scenes.full().built(59));
        refusals.due("6: unit 59 of 59", Scenes::nearlyFull, Checks.BOUNDS, x -> x.built(59));
        refusals.due("6: unit 60 of 60", Scenes::full, Checks.BOUNDS, x -> x.built(60));
    }

    /** "What the builder holds becomes a text; it is empty then". */
    private static void takeEmptyAndFull() {
        TextDesk x = new TextDesk();
        checks.due("7: of an empty builder", 0, () -> x.take());
        checks.row("7: an empty text", Desks.units(x, 0));
        Desks.build(x, Desks.times(300, 60));
        checks.due("7: of a full builder", 1, () -> x.take());
        checks.row("7: 60 units", Desks.units(x, 1), Desks.times(300, 60));
        checks.due("7: it is empty then", 0, () -> x.built(-1));
        checks.refused("7: unit 0 is gone", Checks.BOUNDS, () -> x.built(0));
        checks.due("7: and holds one", 1, () -> x.unit(5));
    }

    /** "IllegalStateException: there are 24". */
    private static void takeWhenThereAre24() {
        TextDesk x = Scenes.nearlyFull();
        checks.due("7: the 24th", 23, () -> x.take());
        checks.due("7: its length", 59, () -> x.at(23, -1));
        checks.due("7: the builder is empty then", 0, () -> x.built(-1));
        checks.refused("7: the 25th, empty", Checks.STATE, () -> x.take());
        refusals.due("7: the 25th", Scenes::full, Checks.STATE, y -> y.take());
        TextDesk cleared = Scenes.full();
        cleared.clear();
        checks.due("7: after clear", 0, () -> cleared.take());
        checks.due("7: what was refused before", 60, () -> cleared.at(0, -1));
    }
}
