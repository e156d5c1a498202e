/** The document's sections "What it is" and "Terms": a test for each sentence that names a limit. */
public final class TermsTest {
    private static final Checks checks = new Checks();
    private static final Refusals refusals = new Refusals(checks);
    private static final int MOST_CALLS = 512;

    public static void main(String[] args) {
        unitsFrom0To65535();
        highAndLowUnits();
        pairsStandForCharacters();
        loneUnitsStandForThemselves();
        textOf60Units();
        numbersInOrder();
        atMost24Texts();
        textDoesNotChange();
        narrowOrWide();
        builderOf60();
        bytesOf200();
        lastOf512Calls();
        mostCallsOfOneKind();
        checks.end();
    }

    /** "A UNIT is 0 .. 65535". */
    private static void unitsFrom0To65535() {
        TextDesk x = new TextDesk();
        Desks.text(x, 0, 65535);
        checks.row("units of a text", Desks.units(x, 0), 0, 65535);
        checks.row("units of the builder", Desks.built(withUnits(0, 65535)), 0, 65535);
        refusals.due("unit -1", TextDesk::new, Checks.ARGUMENT, y -> y.unit(-1));
        refusals.due("unit 65536", TextDesk::new, Checks.ARGUMENT, y -> y.unit(65536));
    }

    private static TextDesk withUnits(int... units) {
        TextDesk x = new TextDesk();
        Desks.build(x, units);
        return x;
    }

    /** "A HIGH one is 55296 .. 56319, a LOW one 56320 .. 57343": all edges beside all edges, seen by five calls. */
    private static void highAndLowUnits() {
        int[] edges = {55295, 55296, 56319, 56320, 57343, 57344};
        for (int first : edges) {
            for (int second : edges) {
                boolean high = first == 55296 || first == 56319;
                boolean low = second == 56320 || second == 57343;
                pairOrNot(first, second, high && low);
            }
        }
    }

    private static void pairOrNot(int first, int second, boolean pair) {
        String name = first + ", " + second;
        TextDesk x = withUnits(first, second);
        x.reverse();
        checks.row(name + " reversed", Desks.built(x), pair ? first : second, pair ? second : first);
        x.delete(0, 2);
        Desks.text(x, first, second);
        checks.due(name + ", characters", pair ? 1 : 2, () -> x.character(0, -1));
        checks.due(name + " in UTF-8", pair ? 4 : utf8Length(first) + utf8Length(second), () -> x.encode(0, 0));
        checks.due(name + " in MODIFIED", 6, () -> x.encode(0, 1));
        checks.due(name + " in LATIN", pair ? 1 : 2, () -> x.encode(0, 4));
    }

    private static int utf8Length(int unit) {
        return unit >= 55296 && unit <= 57343 ? 1 : 3;
    }

    /** "which stands for the CHARACTER 65536 + (high - 55296) * 1024 + low - 56320". */
    private static void pairsStandForCharacters() {
        characterOf(65536, 55296, 56320);
        characterOf(66559, 55296, 57343);
        characterOf(66560, 55297, 56320);
        characterOf(1113088, 56319, 56320);
        characterOf(1114111, 56319, 57343);
    }

    /** "all other units stand for themselves (high and low ones that are LONE too)". */
    private static void loneUnitsStandForThemselves() {
        for (int unit : new int[] {0, 65535, 55295, 55296, 56319, 56320, 57343, 57344}) {
            characterOf(unit, unit);
            characterOf(unit, unit, 97);
        }
        TextDesk x = new TextDesk();
        Desks.text(x, 97, 55296);
        Desks.text(x, 56320, 97);
        checks.due("a high one at the end", 55296, () -> x.character(0, 1));
        checks.due("a low one at the beginning", 56320, () -> x.character(1, 0));
        x.join(0, 1);
        checks.due("joined they are a pair", 65536, () -> x.character(2, 1));
        checks.due("a part of it is lone", 56320, () -> x.character(x.part(2, 2, 3), 0));
    }

    private static void characterOf(int due, int... units) {
        TextDesk x = new TextDesk();
        Desks.text(x, units);
        checks.due("character " + due, due, () -> x.character(0, 0));
    }

    /** "A TEXT is at most 60 units": each call that makes a text can make one of 60, and of none. */
    private static void textOf60Units() {
        TextDesk x = new TextDesk();
        int[] half = Desks.times(300, 30);
        Desks.text(x, half);
        Desks.text(x);
        lengthOf(x, "joined", x.join(0, 0), 60);
        lengthOf(x, "a part", x.part(2, 0, 60), 60);
        lengthOf(x, "stripped", x.strip(2), 60);
        lengthOf(x, "replaced", x.replace(0, x.part(0, 0, 1), x.part(0, 0, 2)), 60);
        x.encode(2, 2);
        lengthOf(x, "decoded", x.decode(2, true), 60);
        x.insert(0, 2);
        lengthOf(x, "taken", x.take(), 60);
        lengthOf(x, "joined, none", x.join(1, 1), 0);
        lengthOf(x, "a part, none", x.part(2, 60, 60), 0);
        lengthOf(x, "stripped, none", x.strip(1), 0);
        lengthOf(x, "replaced, none", x.replace(2, 2, 1), 0);
        lengthOf(x, "decoded, none", x.decode(2, true), 0);
        lengthOf(x, "taken, none", x.take(), 0);
    }

    private static void lengthOf(TextDesk x, String what, int text, int due) {
        checks.due("60 or none, " + what, due, () -> x.at(text, -1));
        if (due > 0) {
            checks.due("the last, " + what, 300, () -> x.at(text, due - 1));
        }
        checks.refused("the one behind it, " + what, Checks.BOUNDS, () -> x.at(text, due));
    }

    /** "Texts are numbered 0, 1, .. in the order in which they are made", by whatever call. */
    private static void numbersInOrder() {
        TextDesk x = new TextDesk();
        checks.due("take", 0, () -> x.take());
        checks.due("join", 1, () -> x.join(0, 0));
        checks.due("part", 2, () -> x.part(0, 0, 0));
        checks.refused("a refused part", Checks.BOUNDS, () -> x.part(0, 0, 1));
        checks.due("replace", 3, () -> x.replace(0, 1, 2));
        checks.due("strip", 4, () -> x.strip(0));
        checks.due("decode", 5, () -> x.decode(0, false));
        checks.due("take again", 6, () -> x.take());
    }

    /** "at most 24": text 23 can be used by each call, a text 24 by none. */
    private static void atMost24Texts() {
        used("insert", (x, t) -> x.insert(1, t), () -> {
            TextDesk x = Scenes.full();
            x.delete(0, 30);
            return x;
        });
        used("at", (x, t) -> x.at(t, 0), Scenes::full);
        used("character", (x, t) -> x.character(t, 0), Scenes::full);
        used("narrow", (x, t) -> x.narrow(t), Scenes::full);
        used("hash", (x, t) -> x.hash(t), Scenes::full);
        used("compare", (x, t) -> x.compare(t, 0), Scenes::full);
        used("compare behind", (x, t) -> x.compare(0, t), Scenes::full);
        used("find", (x, t) -> x.find(t, 0, 0, false), Scenes::full);
        used("find behind", (x, t) -> x.find(0, t, 0, true), Scenes::full);
        used("encode", (x, t) -> x.encode(t, 0), Scenes::full);
        used("symbol", (x, t) -> x.symbol(t), () -> {
            TextDesk x = Scenes.nearlyFull();
            x.take();
            return x;
        });
    }

    private interface Use {
        void of(TextDesk desk, int text);
    }

    private static void used(String call, Use use, Scenes.Scene scene) {
        checks.same(call + " of text 23", outcome(scene, use, 23), "0");
        checks.same(call + " of text 24", outcome(scene, use, 24), Checks.ARGUMENT.getName());
    }

    private static String outcome(Scenes.Scene scene, Use use, int text) {
        TextDesk desk = scene.make();
        return Checks.outcome(() -> {
            use.of(desk, text);
            return 0;
        });
    }

    /** "a text does not change", whatever is done with it, the builder and the bytes. */
    private static void textDoesNotChange() {
        TextDesk x = new TextDesk();
        Desks.text(x, 1, 2, 255);
        Desks.text(x, 55296, 56320, 300);
        x.join(0, 1);
        x.insert(0, 2);
        x.reverse();
        x.delete(0, 1);
        x.take();
        x.replace(2, 0, 1);
        x.join(2, 2);
        x.strip(2);
        x.symbol(2);
        x.encode(2, 1);
        x.type(7);
        x.decode(1, false);
        x.insert(0, 0);
        x.unit(9);
        x.reverse();
        checks.row("a narrow text", Desks.units(x, 0), 1, 2, 255);
        checks.row("a wide text", Desks.units(x, 1), 55296, 56320, 300);
        checks.row("a joined text", Desks.units(x, 2), 1, 2, 255, 55296, 56320, 300);
    }

    /** "It is NARROW when all its units are below 256, otherwise WIDE", of all texts that can be made. */
    private static void narrowOrWide() {
        TextDesk x = new TextDesk();
        Desks.text(x, 255);
        Desks.text(x, 256);
        Desks.text(x);
        narrowIs(x, "255", 0, 1);
        narrowIs(x, "256", 1, 0);
        narrowIs(x, "none", 2, 1);
        narrowIs(x, "255 and 256", x.join(0, 1), 0);
        narrowIs(x, "256 and 255", x.join(1, 0), 0);
        narrowIs(x, "255 and 255", x.join(0, 0), 1);
        narrowIs(x, "255 of both", x.part(3, 0, 1), 1);
        narrowIs(x, "256 of both", x.part(3, 1, 2), 0);
        narrowIs(x, "none of 256", x.part(1, 0, 0), 1);
        narrowIs(x, "256 replaced", x.replace(3, 1, 0), 1);
        narrowIs(x, "255 replaced", x.replace(0, 0, 1), 0);
        narrowIs(x, "256 stripped", x.strip(1), 0);
        x.encode(1, 2);
        narrowIs(x, "256 decoded", x.decode(2, true), 0);
        x.encode(0, 2);
        narrowIs(x, "255 decoded", x.decode(2, true), 1);
        x.type(255);
        narrowIs(x, "65533 decoded", x.decode(0, false), 0);
    }

    private static void narrowIs(TextDesk x, String what, int text, int due) {
        checks.due("narrow: " + what, due, () -> x.narrow(text) ? 1 : 0);
    }

    /** "THE BUILDER holds at most 60 units", whether by unit or by insert. */
    private static void builderOf60() {
        TextDesk x = new TextDesk();
        Desks.text(x, 5);
        for (int count = 1; count <= 60; count++) {
            int number = count;
            checks.due("unit " + count, count, () -> number % 2 == 0 ? x.unit(5) : x.insert(number / 2, 0));
        }
        checks.refused("the 61st by unit", Checks.STATE, () -> x.unit(5));
        checks.refused("the 61st by insert", Checks.STATE, () -> x.insert(0, 0));
        checks.row("60 stay", Desks.built(x), Desks.times(5, 60));
    }

    /** "THE BYTES are a row of at most 200". */
    private static void bytesOf200() {
        TextDesk x = new TextDesk();
        for (int count = 1; count <= 200; count++) {
            int number = count;
            checks.due("byte " + count, count, () -> x.type(number));
        }
        checks.refused("the 201st", Checks.STATE, () -> x.type(201));
        for (int k = 0; k < 200; k++) {
            int place = k;
            checks.due("octet " + k, k + 1, () -> x.octet(place));
        }
    }

    /** "An object is used for at most 512 calls": the last of them is as good as the first. */
    private static void lastOf512Calls() {
        for (int last = 0; last < 6; last++) {
            TextDesk x = Scenes.ordinary();
            for (int call = Scenes.ORDINARY_CALLS + 1; call < MOST_CALLS; call++) {
                x.reverse();
            }
            int kind = last;
            int[] due = {6, 8, 5, 65536, 7, 5};
            checks.due("the 512th call, " + kind, due[kind], () -> lastCall(x, kind));
        }
    }

    private static int lastCall(TextDesk x, int kind) {
        return switch (kind) {
            case 0 -> x.unit(5);
            case 1 -> x.insert(0, 0);
            case 2 -> x.take();
            case 3 -> x.character(3, 5);
            case 4 -> x.encode(1, 0);
            default -> x.decode(0, false);
        };
    }

    /** The same, with 512 calls that each make something. */
    private static void mostCallsOfOneKind() {
        TextDesk x = new TextDesk();
        for (int call = 0; call + 4 <= MOST_CALLS; call += 4) {
            checks.due("unit", 1, () -> x.unit(300));
            checks.due("take", 0, () -> x.take());
            checks.due("symbol", 0, () -> x.symbol(0));
            x.clear();
        }
        TextDesk y = new TextDesk();
        Desks.text(y, Desks.times(3000, 60));
        for (int call = 61; call + 3 <= MOST_CALLS - 1; call += 3) {
            checks.due("encode", 180, () -> y.encode(0, 1));
            y.clear();
            checks.due("decode", 0, () -> y.decode(1, true));
        }
        checks.due("the last unit", 3000, () -> y.at(0, 59));
        filledAgainAndAgain();
        joinedAgainAndAgain();
    }

    /** A builder that is filled, emptied and filled again has room for 60 each time. */
    private static void filledAgainAndAgain() {
        TextDesk x = new TextDesk();
        for (int round = 0; round < 8; round++) {
            for (int count = 1; count <= 60; count++) {
                int number = count;
                checks.due("unit " + count + " of round " + round, count, () -> x.unit(number));
            }
            checks.refused("the 61st of round " + round, Checks.STATE, () -> x.unit(61));
            x.delete(0, 60);
        }
    }

    /** A text that is joined as deep as 24 texts allow, cleared, and joined so again. */
    private static void joinedAgainAndAgain() {
        TextDesk x = new TextDesk();
        for (int round = 0; round < 15; round++) {
            Desks.text(x, 7, 300);
            for (int k = 1; k < 24; k++) {
                int number = k;
                checks.due("join " + k, k, () -> x.join(number - 1, 0));
            }
            checks.due("the last unit of round " + round, 300, () -> x.at(23, 47));
            x.clear();
        }
    }
}
