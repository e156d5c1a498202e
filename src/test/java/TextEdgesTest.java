/** Promises 8 to 15: a test for each sentence of theirs that names a boundary case. */
public final class TextEdgesTest {
    private static final Checks checks = new Checks();
    private static final Refusals refusals = new Refusals(checks);
    private static final int MIN = Integer.MIN_VALUE;
    private static final int MAX = Integer.MAX_VALUE;
    private static final int[] NO_TEXTS = {-1, Scenes.ORDINARY_TEXTS, 24, MIN, MAX};
    private static final int LAST_TEXT = Scenes.ORDINARY_TEXTS - 1;
    private static final int HIGH = Scenes.HIGH;
    private static final int LOW = Scenes.LOW;

    public static void main(String[] args) {
        joinWithEmptyTexts();
        joinNoSuchTexts();
        joinWhenThereAre24();
        joinMoreThan60();
        partNoneOrAll();
        partNoSuchText();
        partFromBelow0();
        partFromAboveTo();
        partToAboveItsLength();
        partWhenThereAre24();
        replaceNoneOverAnotherOne();
        replaceAtTheEnds();
        replaceWhereBIsEmpty();
        replaceNoSuchTexts();
        replaceWhenThereAre24();
        replaceMoreThan60();
        stripUpTo32();
        stripAllOrNone();
        stripNoSuchText();
        stripWhenThereAre24();
        atLength();
        atNoSuchText();
        atNoSuchUnit();
        characterLength();
        characterNoSuchText();
        characterNoSuchCharacter();
        narrowBelow256();
        narrowNoSuchText();
        hashOfTheEmptyText();
        hashWraps();
        hashNoSuchText();
        checks.end();
    }

    /** "b behind a", where one is empty, or both are. */
    private static void joinWithEmptyTexts() {
        TextDesk x = Desks.with("ab", "");
        checks.row("8: a empty", Desks.units(x, x.join(1, 0)), 'a', 'b');
        checks.row("8: b empty", Desks.units(x, x.join(0, 1)), 'a', 'b');
        checks.row("8: both empty", Desks.units(x, x.join(1, 1)));
        checks.due("8: each is a new text", 5, () -> x.take());
    }

    /** "IllegalArgumentException: no such texts". */
    private static void joinNoSuchTexts() {
        for (int none : NO_TEXTS) {
            refusals.due("8: a = " + none, Scenes::ordinary, Checks.ARGUMENT, x -> x.join(none, 0));
            refusals.due("8: b = " + none, Scenes::ordinary, Checks.ARGUMENT, x -> x.join(0, none));
            refusals.due("8: both = " + none, Scenes::ordinary, Checks.ARGUMENT, x -> x.join(none, none));
        }
        checks.due("8: the last text", LAST_TEXT + 1, () -> Scenes.ordinary().join(LAST_TEXT, LAST_TEXT));
        refusals.due("8: a = 24 of 24", Scenes::full, Checks.ARGUMENT, x -> x.join(24, 1));
        refusals.due("8: b = 24 of 24", Scenes::full, Checks.ARGUMENT, x -> x.join(1, 24));
    }

    /** "IllegalStateException: there are 24 ..". */
    private static void joinWhenThereAre24() {
        TextDesk x = Scenes.nearlyFull();
        checks.due("8: the 24th", 23, () -> x.join(2, 3));
        checks.row("8: its units", Desks.units(x, 23), 2, 3);
        refusals.due("8: the 25th", Scenes::full, Checks.STATE, y -> y.join(2, 3));
        refusals.due("8: the 25th, of empty texts", Scenes::full, Checks.STATE, y -> y.join(0, 0));
    }

    /** "IllegalStateException: .. or it would have more than 60 units". */
    private static void joinMoreThan60() {
        TextDesk x = new TextDesk();
        Desks.text(x, Desks.times(97, 59));
        Desks.text(x, 98);
        Desks.text(x);
        checks.due("8: 60 units", 3, () -> x.join(0, 1));
        checks.due("8: the 60th", 98, () -> x.at(3, 59));
        checks.due("8: 60 units and none", 4, () -> x.join(3, 2));
        checks.due("8: none and 60 units", 5, () -> x.join(2, 3));
        checks.refused("8: 60 units and one", Checks.STATE, () -> x.join(3, 1));
        checks.refused("8: one and 60 units", Checks.STATE, () -> x.join(1, 3));
        checks.refused("8: 60 units and 60", Checks.STATE, () -> x.join(3, 3));
        checks.due("8: what is refused has no number", 6, () -> x.join(2, 2));
        refusals.due("8: 61 units", Scenes::nearlyFull, Checks.STATE, y -> y.join(Scenes.LONG_TEXT, Scenes.SHORT_TEXT));
        refusals.due("8: 120 units, and there are 24", Scenes::full, Checks.STATE, y -> y.join(1, 1));
    }

    /** "the units of a text from a place on, before another one". */
    private static void partNoneOrAll() {
        checks.row("9: none at 0", parted("abc", 0, 0));
        checks.row("9: none at 1", parted("abc", 1, 1));
        checks.row("9: none at the length", parted("abc", 3, 3));
        checks.row("9: the first", parted("abc", 0, 1), 'a');
        checks.row("9: the last", parted("abc", 2, 3), 'c');
        checks.row("9: all", parted("abc", 0, 3), 'a', 'b', 'c');
        checks.row("9: none of none", parted("", 0, 0));
        checks.row("9: half a pair", parted("\ud800\udc00", 1, 2), LOW);
        TextDesk x = Scenes.nearlyFull();
        checks.due("9: all of 60", 23, () -> x.part(Scenes.LONG_TEXT, 0, 60));
        checks.due("9: 60 units", 60, () -> x.at(23, -1));
    }

    private static int[] parted(String text, int from, int to) {
        TextDesk x = Desks.with(text);
        checks.due("9: its number", 1, () -> x.part(0, from, to));
        return Desks.units(x, 1);
    }

    /** "IllegalArgumentException: no such text". */
    private static void partNoSuchText() {
        for (int none : NO_TEXTS) {
            refusals.due("9: text " + none, Scenes::ordinary, Checks.ARGUMENT, x -> x.part(none, 0, 0));
            refusals.due("9: text " + none + ", no range", Scenes::ordinary, Checks.ARGUMENT, x -> x.part(none, 1, 0));
        }
        checks.due("9: the last text", LAST_TEXT + 1, () -> Scenes.ordinary().part(LAST_TEXT, 1, 2));
        refusals.due("9: text 24 of 24", Scenes::full, Checks.ARGUMENT, x -> x.part(24, 0, 0));
    }

    /** "IndexOutOfBoundsException: as for delete": from is below 0. */
    private static void partFromBelow0() {
        partRefused(-1, -1);
        partRefused(-1, 0);
        partRefused(-1, 3);
        partRefused(-1, 4);
        partRefused(MIN, 2);
        partRefused(MIN, MIN);
    }

    /** "IndexOutOfBoundsException: as for delete": from is above to. */
    private static void partFromAboveTo() {
        partRefused(1, 0);
        partRefused(3, 2);
        partRefused(3, 0);
        partRefused(0, -1);
        partRefused(4, 3);
        partRefused(0, MIN);
        partRefused(MAX, MIN);
    }

    /** "IndexOutOfBoundsException: as for delete": to is above its length, even where another text is longer. */
    private static void partToAboveItsLength() {
        partRefused(0, 4);
        partRefused(3, 4);
        partRefused(4, 4);
        partRefused(0, MAX);
        partRefused(MIN, MAX);
        partRefused(MAX, MAX);
        refusals.due("9: part(2, 0, 1), an empty text", Scenes::ordinary, Checks.BOUNDS, x -> x.part(2, 0, 1));
        refusals.due("9: part(2, 1, 1), an empty text", Scenes::ordinary, Checks.BOUNDS, x -> x.part(2, 1, 1));
        refusals.due("9: part(3, 0, 8), a joined text", Scenes::ordinary, Checks.BOUNDS, x -> x.part(3, 0, 8));
        refusals.due("9: 61 of 60", Scenes::nearlyFull, Checks.BOUNDS, x -> x.part(Scenes.LONG_TEXT, 0, 61));
        refusals.due("9: no range, and there are 24", Scenes::full, Checks.BOUNDS,
                x -> x.part(Scenes.LONG_TEXT, 0, 61));
    }

    private static void partRefused(int from, int to) {
        refusals.due("9: part(0, " + from + ", " + to + ") of 3", Scenes::ordinary, Checks.BOUNDS,
                x -> x.part(0, from, to));
    }

    /** "IllegalStateException: there are 24". */
    private static void partWhenThereAre24() {
        TextDesk x = Scenes.nearlyFull();
        checks.due("9: the 24th", 23, () -> x.part(Scenes.SHORT_TEXT, 0, 1));
        checks.row("9: its units", Desks.units(x, 23), Scenes.SHORT_TEXT);
        refusals.due("9: the 25th", Scenes::full, Checks.STATE, y -> y.part(Scenes.SHORT_TEXT, 0, 1));
        refusals.due("9: the 25th, empty", Scenes::full, Checks.STATE, y -> y.part(Scenes.EMPTY_TEXT, 0, 0));
    }

    /** "from the left on, none over another one". */
    private static void replaceNoneOverAnotherOne() {
        checks.row("10: two of four", replaced("aaaa", "aa", "b"), 'b', 'b');
        checks.row("10: the third is left", replaced("aaa", "aa", "b"), 'b', 'a');
        checks.row("10: the left one of two", replaced("ababa", "aba", "x"), 'x', 'b', 'a');
        checks.row("10: what c makes is no place", replaced("aab", "ab", "b"), 'a', 'b');
        checks.row("10: c has b in it", replaced("aa", "a", "aa"), 'a', 'a', 'a', 'a');
    }

    /** "each place where b stands in a", at the beginning and at the end, all, and none. */
    private static void replaceAtTheEnds() {
        checks.row("10: at the beginning", replaced("abc", "a", "xy"), 'x', 'y', 'b', 'c');
        checks.row("10: at the end", replaced("abc", "c", "xy"), 'a', 'b', 'x', 'y');
        checks.row("10: all of a", replaced("abc", "abc", "x"), 'x');
        checks.row("10: all of a, by nothing", replaced("abc", "abc", ""));
        checks.row("10: b ends behind a", replaced("abc", "cd", "x"), 'a', 'b', 'c');
        checks.row("10: b is longer than a", replaced("ab", "abc", "x"), 'a', 'b');
        checks.row("10: b is nowhere", replaced("abc", "d", "x"), 'a', 'b', 'c');
        checks.row("10: a is empty", replaced("", "a", "x"));
        checks.row("10: all three are the same", replaced("ab", "ab", "ab"), 'a', 'b');
    }

    /** "where b is empty: before each unit and at the end". */
    private static void replaceWhereBIsEmpty() {
        checks.row("10: one unit", replaced("a", "", "x"), 'x', 'a', 'x');
        checks.row("10: two units", replaced("ab", "", "xy"), 'x', 'y', 'a', 'x', 'y', 'b', 'x', 'y');
        checks.row("10: a pair is two units", replaced("\ud800\udc00", "", "x"), 'x', HIGH, 'x', LOW, 'x');
        checks.row("10: a is empty too", replaced("", "", "x"), 'x');
        checks.row("10: c is empty too", replaced("ab", "", ""), 'a', 'b');
        checks.row("10: all are empty", replaced("", "", ""));
    }

    private static int[] replaced(String a, String b, String c) {
        TextDesk x = Desks.with(a, b, c);
        checks.due("10: its number", 3, () -> x.replace(0, 1, 2));
        return Desks.units(x, 3);
    }

    /** "IllegalArgumentException: no such texts". */
    private static void replaceNoSuchTexts() {
        for (int none : NO_TEXTS) {
            refusals.due("10: a = " + none, Scenes::ordinary, Checks.ARGUMENT, x -> x.replace(none, 0, 1));
            refusals.due("10: b = " + none, Scenes::ordinary, Checks.ARGUMENT, x -> x.replace(0, none, 1));
            refusals.due("10: c = " + none, Scenes::ordinary, Checks.ARGUMENT, x -> x.replace(0, 1, none));
        }
        checks.due("10: the last text", LAST_TEXT + 1,
                () -> Scenes.ordinary().replace(LAST_TEXT, LAST_TEXT, LAST_TEXT));
        refusals.due("10: a = 24 of 24", Scenes::full, Checks.ARGUMENT, x -> x.replace(24, 2, 3));
        refusals.due("10: b = 24 of 24", Scenes::full, Checks.ARGUMENT, x -> x.replace(2, 24, 3));
        refusals.due("10: c = 24 of 24", Scenes::full, Checks.ARGUMENT, x -> x.replace(2, 3, 24));
    }

    /** "IllegalStateException: there are 24 ..". */
    private static void replaceWhenThereAre24() {
        TextDesk x = Scenes.nearlyFull();
        checks.due("10: the 24th", 23, () -> x.replace(2, 2, 3));
        checks.row("10: its units", Desks.units(x, 23), 3);
        refusals.due("10: the 25th", Scenes::full, Checks.STATE, y -> y.replace(2, 2, 3));
        refusals.due("10: the 25th, nothing replaced", Scenes::full, Checks.STATE, y -> y.replace(2, 3, 4));
    }

    /** "IllegalStateException: .. or it would have more than 60 units". */
    private static void replaceMoreThan60() {
        String a58 = "a".repeat(58);
        longReplaced("b at the beginning", "b" + a58, "b", "cc", 60);
        longReplaced("b at the end", a58 + "b", "b", "cc", 60);
        longReplaced("b at the end", a58 + "b", "b", "ccc", 61);
        longReplaced("b at the beginning", "b" + a58, "b", "ccc", 61);
        longReplaced("b in all places", "b".repeat(30), "b", "cc", 60);
        longReplaced("b in all places", "b".repeat(31), "b", "cc", 62);
        longReplaced("60 units stay", "a".repeat(60), "b", "c".repeat(60), 60);
        longReplaced("60 units by 60", "a".repeat(60), "a", "b", 60);
        longReplaced("60 units by none", "a".repeat(60), "a", "", 0);
        longReplaced("60 units by 3600", "a".repeat(60), "a", "b".repeat(60), 3600);
        longReplaced("b is empty", "", "", "c".repeat(60), 60);
        longReplaced("b and c are empty", "a".repeat(60), "", "", 60);
        longReplaced("b is empty", "a", "", "c".repeat(30), 61);
        longReplaced("b is empty", "a".repeat(30), "", "c", 61);
        longReplaced("b is empty", "a".repeat(60), "", "c".repeat(60), 3720);
        refusals.due("10: 61 units", Scenes::nearlyFull, Checks.STATE,
                x -> x.replace(Scenes.LONG_TEXT, Scenes.EMPTY_TEXT, Scenes.SHORT_TEXT));
    }

    private static void longReplaced(String what, String a, String b, String c, int length) {
        TextDesk x = Desks.with(a, b, c);
        String name = "10: " + length + " units, " + what;
        if (length > 60) {
            checks.refused(name, Checks.STATE, () -> x.replace(0, 1, 2));
            checks.due(name + ", no text is made", 3, () -> x.take());
        } else {
            checks.due(name, 3, () -> x.replace(0, 1, 2));
            checks.row(name, Desks.units(x, 3), a.replace(b, c).chars().toArray());
        }
    }

    /** "without the units up to 32 at its beginning and end". */
    private static void stripUpTo32() {
        checks.row("11: 0, 31 and 32 go", stripped(0, 31, 32, 97, 32, 31, 0), 97);
        checks.row("11: 33 stays", stripped(33, 97, 33), 33, 97, 33);
        checks.row("11: those in the middle stay", stripped(32, 97, 32, 0, 98, 32), 97, 32, 0, 98);
        checks.row("11: at the beginning alone", stripped(32, 97), 97);
        checks.row("11: at the end alone", stripped(97, 32), 97);
        checks.row("11: other spaces stay", stripped(133, 160, 8195, 12288), 133, 160, 8195, 12288);
        checks.row("11: 256 + 32 stays", stripped(288, 97, 288), 288, 97, 288);
    }

    /** The same, where all units are up to 32, or none is there. */
    private static void stripAllOrNone() {
        checks.row("11: one, it goes", stripped(32));
        checks.row("11: one, it stays", stripped(33), 33);
        checks.row("11: all go", stripped(32, 0, 9));
        checks.row("11: 60 go", stripped(Desks.times(32, 60)));
        checks.row("11: 60 stay", stripped(Desks.times(33, 60)), Desks.times(33, 60));
        checks.row("11: an empty text", stripped());
    }

    private static int[] stripped(int... units) {
        TextDesk x = new TextDesk();
        Desks.text(x, units);
        checks.due("11: its number", 1, () -> x.strip(0));
        return Desks.units(x, 1);
    }

    /** "IllegalArgumentException: no such text". */
    private static void stripNoSuchText() {
        for (int none : NO_TEXTS) {
            refusals.due("11: text " + none, Scenes::ordinary, Checks.ARGUMENT, x -> x.strip(none));
        }
        checks.due("11: the last text", LAST_TEXT + 1, () -> Scenes.ordinary().strip(LAST_TEXT));
        refusals.due("11: text 24 of 24", Scenes::full, Checks.ARGUMENT, x -> x.strip(24));
    }

    /** "IllegalStateException: there are 24". */
    private static void stripWhenThereAre24() {
        TextDesk x = Scenes.nearlyFull();
        checks.due("11: the 24th", 23, () -> x.strip(Scenes.LONG_TEXT));
        checks.due("11: its length", 60, () -> x.at(23, -1));
        refusals.due("11: the 25th", Scenes::full, Checks.STATE, y -> y.strip(Scenes.LONG_TEXT));
        refusals.due("11: the 25th, empty", Scenes::full, Checks.STATE, y -> y.strip(Scenes.EMPTY_TEXT));
    }

    /** "k = -1: how many it has". */
    private static void atLength() {
        int[] due = {3, 4, 0, 7, 3};
        for (int text = 0; text < due.length; text++) {
            int number = text;
            checks.due("12: length of text " + text, due[text], () -> Scenes.ordinary().at(number, -1));
            refusals.answered("12: asking for it", Scenes::ordinary, x -> x.at(number, -1));
        }
        checks.due("12: 60", 60, () -> Scenes.full().at(Scenes.LONG_TEXT, -1));
    }

    /** "IllegalArgumentException: no such text". */
    private static void atNoSuchText() {
        for (int none : NO_TEXTS) {
            refusals.due("12: text " + none, Scenes::ordinary, Checks.ARGUMENT, x -> x.at(none, -1));
            refusals.due("12: no text and no unit", Scenes::ordinary, Checks.ARGUMENT, x -> x.at(none, -2));
        }
        checks.due("12: text 23", 23, () -> Scenes.full().at(23, 0));
        refusals.due("12: text 24 of 24", Scenes::full, Checks.ARGUMENT, x -> x.at(24, 0));
        refusals.due("12: text 23 of 23", Scenes::nearlyFull, Checks.ARGUMENT, x -> x.at(23, 0));
    }

    /** "IndexOutOfBoundsException: no such unit", of a narrow, a wide, an empty and a joined text. */
    private static void atNoSuchUnit() {
        checks.due("12: the first", 'a', () -> Scenes.ordinary().at(0, 0));
        checks.due("12: the last, narrow", 'c', () -> Scenes.ordinary().at(0, 2));
        checks.due("12: the last, wide", LOW, () -> Scenes.ordinary().at(1, 3));
        checks.due("12: the last, joined", LOW, () -> Scenes.ordinary().at(3, 6));
        checks.due("12: unit 59 of 60", 2048, () -> Scenes.full().at(Scenes.LONG_TEXT, 59));
        int[] length = {3, 4, 0, 7};
        for (int text = 0; text < length.length; text++) {
            int number = text;
            for (int none : new int[] {-2, length[text], length[text] + 1, MIN, MAX}) {
                refusals.due("12: unit " + none + " of text " + text, Scenes::ordinary, Checks.BOUNDS,
                        x -> x.at(number, none));
            }
        }
        refusals.due("12: unit 60 of 60", Scenes::full, Checks.BOUNDS, x -> x.at(Scenes.LONG_TEXT, 60));
    }

    /** "k = -1: how many it has", counting characters. */
    private static void characterLength() {
        int[] due = {3, 3, 0, 6, 3};
        for (int text = 0; text < due.length; text++) {
            int number = text;
            checks.due("13: length of text " + text, due[text], () -> Scenes.ordinary().character(number, -1));
            refusals.answered("13: asking for it", Scenes::ordinary, x -> x.character(number, -1));
        }
        checks.due("13: 60", 60, () -> Scenes.full().character(Scenes.LONG_TEXT, -1));
        checks.due("13: 30 pairs", 30, () -> Desks.with("\ud800\udc00".repeat(30)).character(0, -1));
        checks.due("13: 60 high ones", 60, () -> Desks.with("\ud800".repeat(60)).character(0, -1));
        checks.due("13: 60 low ones", 60, () -> Desks.with("\udc00".repeat(60)).character(0, -1));
    }

    /** "As for at": no such text. */
    private static void characterNoSuchText() {
        for (int none : NO_TEXTS) {
            refusals.due("13: text " + none, Scenes::ordinary, Checks.ARGUMENT, x -> x.character(none, -1));
            refusals.due("13: no text, no unit", Scenes::ordinary, Checks.ARGUMENT, x -> x.character(none, -2));
        }
        checks.due("13: text 23", 23, () -> Scenes.full().character(23, 0));
        refusals.due("13: text 24 of 24", Scenes::full, Checks.ARGUMENT, x -> x.character(24, 0));
    }

    /** "As for at": no such character; where there are pairs, there are fewer characters than units. */
    private static void characterNoSuchCharacter() {
        checks.due("13: the first", 97, () -> Scenes.ordinary().character(1, 0));
        checks.due("13: the last, a pair", 65536, () -> Scenes.ordinary().character(1, 2));
        checks.due("13: the last, joined", 65536, () -> Scenes.ordinary().character(3, 5));
        int[] length = {3, 3, 0, 6};
        for (int text = 0; text < length.length; text++) {
            int number = text;
            for (int none : new int[] {-2, length[text], length[text] + 1, MIN, MAX}) {
                refusals.due("13: character " + none + " of text " + text, Scenes::ordinary, Checks.BOUNDS,
                        x -> x.character(number, none));
            }
        }
        TextDesk pairs = Desks.with("\udbff\udfff".repeat(30));
        checks.due("13: character 29 of 30 pairs", 1114111, () -> pairs.character(0, 29));
        checks.refused("13: character 30 of 30 pairs", Checks.BOUNDS, () -> pairs.character(0, 30));
        checks.due("13: character 59 of 60", 2048, () -> Scenes.full().character(Scenes.LONG_TEXT, 59));
        checks.refused("13: character 60 of 60", Checks.BOUNDS, () -> Scenes.full().character(Scenes.LONG_TEXT, 60));
        checks.due("13: a lone high one at the end", HIGH, () -> Desks.with("a\ud800").character(0, 1));
        checks.due("13: a lone low one at the beginning", LOW, () -> Desks.with("\udc00a").character(0, 0));
    }

    /** "NARROW when all its units are below 256". */
    private static void narrowBelow256() {
        narrowIs(1, "an empty text");
        narrowIs(1, "0", 0);
        narrowIs(1, "255", 255);
        narrowIs(0, "256", 256);
        narrowIs(0, "65535", 65535);
        narrowIs(0, "256 at the beginning", 256, 97, 97);
        narrowIs(0, "256 at the end", 97, 97, 256);
        narrowIs(1, "60 times 255", Desks.times(255, 60));
        int[] one = Desks.times(255, 60);
        one[59] = 256;
        narrowIs(0, "256 as the 60th", one);
        refusals.answered("14: asking", Scenes::ordinary, x -> x.narrow(3));
    }

    private static void narrowIs(int due, String what, int... units) {
        TextDesk x = new TextDesk();
        Desks.text(x, units);
        checks.due("14: " + what, due, () -> x.narrow(0) ? 1 : 0);
        Desks.text(x);
        checks.due("14: " + what + ", a part", due, () -> x.narrow(x.part(0, 0, units.length)) ? 1 : 0);
        checks.due("14: " + what + ", joined with none", due, () -> x.narrow(x.join(0, 1)) ? 1 : 0);
    }

    /** "IllegalArgumentException: there is none". */
    private static void narrowNoSuchText() {
        for (int none : NO_TEXTS) {
            refusals.due("14: text " + none, Scenes::ordinary, Checks.ARGUMENT, x -> x.narrow(none));
        }
        checks.due("14: the last text", 1, () -> Scenes.ordinary().narrow(LAST_TEXT) ? 1 : 0);
        refusals.due("14: text 24 of 24", Scenes::full, Checks.ARGUMENT, x -> x.narrow(24));
    }

    /** "from 0 on", where there is no unit. */
    private static void hashOfTheEmptyText() {
        checks.due("15: an empty text", 0, () -> Scenes.ordinary().hash(2));
        checks.due("15: the unit 0", 0, () -> Desks.with("\0").hash(0));
        checks.due("15: 60 times the unit 0", 0, () -> Desks.with("\0".repeat(60)).hash(0));
        checks.due("15: the unit 65535", 65535, () -> Desks.with("\uffff").hash(0));
        refusals.answered("15: asking", Scenes::ordinary, x -> x.hash(3));
    }

    /** "it wraps": the digits of 2147483647 to base 31, and one more; then sums that wrap in each step. */
    private static void hashWraps() {
        checks.due("15: just below", MAX, () -> hashed(2, 13, 0, 9, 30, 12, 1));
        checks.due("15: just above", MIN, () -> hashed(2, 13, 0, 9, 30, 12, 2));
        checks.due("15: one more", MIN + 1, () -> hashed(2, 13, 0, 9, 30, 12, 3));
        checks.due("15: 31 times the highest", 31 * MAX, () -> hashed(2, 13, 0, 9, 30, 12, 1, 0));
        checks.due("15: 31 times the lowest", MIN, () -> hashed(2, 13, 0, 9, 30, 12, 2, 0));
        checks.due("15: negative, with a wide unit", MIN + 65535, () -> hashed(2, 13, 0, 9, 30, 12, 2, 65535));
        checks.due("15: 60 times 65535", "\uffff".repeat(60).hashCode(), () -> hashed(Desks.times(65535, 60)));
        checks.due("15: 60 times 255", "\u00ff".repeat(60).hashCode(), () -> hashed(Desks.times(255, 60)));
    }

    private static int hashed(int... units) {
        TextDesk x = new TextDesk();
        Desks.text(x, units);
        return x.hash(0);
    }

    /** "IllegalArgumentException: there is none". */
    private static void hashNoSuchText() {
        for (int none : NO_TEXTS) {
            refusals.due("15: text " + none, Scenes::ordinary, Checks.ARGUMENT, x -> x.hash(none));
        }
        checks.due("15: the last text", " b ".hashCode(), () -> Scenes.ordinary().hash(LAST_TEXT));
        refusals.due("15: text 24 of 24", Scenes::full, Checks.ARGUMENT, x -> x.hash(24));
    }
}
