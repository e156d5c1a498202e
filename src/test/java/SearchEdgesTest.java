/** Promises 16 to 18 and 23: a test for each sentence of theirs that names a boundary case. */
public final class SearchEdgesTest {
    private static final Checks checks = new Checks();
    private static final Refusals refusals = new Refusals(checks);
    private static final int MIN = Integer.MIN_VALUE;
    private static final int MAX = Integer.MAX_VALUE;
    private static final int[] NO_TEXTS = {-1, Scenes.ORDINARY_TEXTS, 24, MIN, MAX};
    private static final int LAST_TEXT = Scenes.ORDINARY_TEXTS - 1;

    public static void main(String[] args) {
        compareFirstUnitThatDiffers();
        compareWhenThereIsNone();
        compareNoSuchTexts();
        findLowestNotBelowFrom();
        findHighestNotAboveFrom();
        findAnEmptyText();
        findInAnEmptyText();
        findLongTexts();
        findNoneIsMinusOne();
        findNoSuchTexts();
        symbolSameForEqualTexts();
        symbolsFrom0AsTheyAreNew();
        symbolNoSuchText();
        symbolIsNewAndThereAre16();
        clearAllTextsAreGone();
        clearAllSymbolsAreGone();
        clearBuilderAndBytesStay();
        clearWhereNothingIs();
        checks.end();
    }

    /** "The first unit in which a and b differ, that of a less that of b". */
    private static void compareFirstUnitThatDiffers() {
        compared("the widest way down", "\0", "\uffff", -65535);
        compared("the widest way up", "\uffff", "\0", 65535);
        compared("around 255", "\u00ff", "\u0100", -1);
        compared("the first unit", "ab", "bb", -1);
        compared("the last unit", "ab", "ac", -1);
        compared("the first of two that differ", "ad", "ba", -1);
        compared("the 60th unit", "a".repeat(59) + "c", "a".repeat(59) + "a", 2);
        compared("not the lengths", "b", "a".repeat(60), 1);
        compared("units, not characters", "\ud800\udc00", "\uffff", 55296 - 65535);
    }

    /** "when there is none, the length of a less that of b". */
    private static void compareWhenThereIsNone() {
        compared("two empty ones", "", "", 0);
        compared("equal ones", "ab", "ab", 0);
        compared("60 equal units", "a".repeat(60), "a".repeat(60), 0);
        compared("none and one", "", "\0", -1);
        compared("one and none", "\uffff", "", 1);
        compared("none and 60", "", "a".repeat(60), -60);
        compared("60 and none", "a".repeat(60), "", 60);
        compared("one more", "a".repeat(60), "a".repeat(59), 1);
        TextDesk x = Scenes.ordinary();
        checks.due("16: itself, joined", 0, () -> x.compare(3, 3));
        refusals.answered("16: asking", Scenes::ordinary, y -> y.compare(3, 1));
    }

    private static void compared(String what, String a, String b, int due) {
        checks.due("16: " + what, due, () -> Desks.with(a, b).compare(0, 1));
    }

    /** "IllegalArgumentException: no such texts". */
    private static void compareNoSuchTexts() {
        for (int none : NO_TEXTS) {
            refusals.due("16: a = " + none, Scenes::ordinary, Checks.ARGUMENT, x -> x.compare(none, 0));
            refusals.due("16: b = " + none, Scenes::ordinary, Checks.ARGUMENT, x -> x.compare(0, none));
            refusals.due("16: both = " + none, Scenes::ordinary, Checks.ARGUMENT, x -> x.compare(none, none));
        }
        checks.due("16: the last text", 0, () -> Scenes.ordinary().compare(LAST_TEXT, LAST_TEXT));
        checks.due("16: texts 23 and 22", 1, () -> Scenes.full().compare(23, 22));
        refusals.due("16: text 24 of 24", Scenes::full, Checks.ARGUMENT, x -> x.compare(24, 23));
    }

    /** "The lowest place not below from": abab has ab at 0 and 2. */
    private static void findLowestNotBelowFrom() {
        int[] from = {MIN, -1, 0, 1, 2, 3, 4, 5, MAX};
        int[] due = {0, 0, 0, 2, 2, -1, -1, -1, -1};
        for (int k = 0; k < from.length; k++) {
            found("abab", "ab", from[k], false, due[k]);
        }
        found("aaa", "aa", 1, false, 1);
        found("aaa", "aa", 2, false, -1);
    }

    /** "last: the highest not above from": abab has ab at 0 and 2. */
    private static void findHighestNotAboveFrom() {
        int[] from = {MIN, -1, 0, 1, 2, 3, 4, 5, MAX};
        int[] due = {-1, -1, 0, 0, 2, 2, 2, 2, 2};
        for (int k = 0; k < from.length; k++) {
            found("abab", "ab", from[k], true, due[k]);
        }
        found("aaa", "aa", 1, true, 1);
        found("aaa", "aa", 0, true, 0);
    }

    /** An empty b stands at each place of a and at its end, and nowhere else. */
    private static void findAnEmptyText() {
        int[] from = {MIN, -1, 0, 1, 2, 3, MAX};
        int[] first = {0, 0, 0, 1, 2, -1, -1};
        int[] last = {-1, -1, 0, 1, 2, 2, 2};
        for (int k = 0; k < from.length; k++) {
            found("ab", "", from[k], false, first[k]);
            found("ab", "", from[k], true, last[k]);
        }
    }

    /** In an empty a only an empty b stands, at 0. */
    private static void findInAnEmptyText() {
        int[] from = {MIN, -1, 0, 1, MAX};
        int[] first = {0, 0, 0, -1, -1};
        int[] last = {-1, -1, 0, 0, 0};
        for (int k = 0; k < from.length; k++) {
            found("", "", from[k], false, first[k]);
            found("", "", from[k], true, last[k]);
            found("", "a", from[k], false, -1);
            found("", "a", from[k], true, -1);
        }
    }

    /** In 60 units: the first place, the last one, and the end. */
    private static void findLongTexts() {
        String a = "b" + "a".repeat(58) + "b";
        found(a, "b", 0, false, 0);
        found(a, "b", 1, false, 59);
        found(a, "b", 59, false, 59);
        found(a, "b", 60, false, -1);
        found(a, "b", 60, true, 59);
        found(a, "b", 58, true, 0);
        found(a, "", 60, false, 60);
        found(a, "", 61, false, -1);
        found(a, "", 61, true, 60);
        found(a, a, 0, false, 0);
        found(a, a, 1, false, -1);
        found(a, a, 60, true, 0);
    }

    /** "-1 when there is none". */
    private static void findNoneIsMinusOne() {
        for (boolean last : new boolean[] {false, true}) {
            int from = last ? MAX : MIN;
            found("abc", "d", from, last, -1);
            found("abc", "abcd", from, last, -1);
            found("abc", "cd", from, last, -1);
            found("abc", "ac", from, last, -1);
            found("abc", "\u0161", from, last, -1);
        }
        refusals.answered("17: asking", Scenes::ordinary, x -> x.find(3, 1, 0, false));
        refusals.answered("17: asking, last", Scenes::ordinary, x -> x.find(3, 1, 9, true));
    }

    private static void found(String a, String b, int from, boolean last, int due) {
        checks.due("17: find " + b + " in " + a + " from " + from + ", " + last, due,
                () -> Desks.with(a, b).find(0, 1, from, last));
    }

    /** "IllegalArgumentException: no such texts". */
    private static void findNoSuchTexts() {
        for (int none : NO_TEXTS) {
            for (boolean last : new boolean[] {false, true}) {
                refusals.due("17: a = " + none, Scenes::ordinary, Checks.ARGUMENT, x -> x.find(none, 0, 0, last));
                refusals.due("17: b = " + none, Scenes::ordinary, Checks.ARGUMENT, x -> x.find(0, none, 0, last));
            }
        }
        checks.due("17: the last text", 0, () -> Scenes.ordinary().find(LAST_TEXT, LAST_TEXT, 0, false));
        refusals.due("17: text 24 of 24", Scenes::full, Checks.ARGUMENT, x -> x.find(24, 0, -1, true));
    }

    /** "the same for equal texts", however they were made. */
    private static void symbolSameForEqualTexts() {
        TextDesk x = Desks.with("ab", "a", "b", "");
        checks.due("18: ab", 0, () -> x.symbol(0));
        checks.due("18: joined", 0, () -> x.symbol(x.join(1, 2)));
        checks.due("18: a part", 0, () -> x.symbol(x.part(0, 0, 2)));
        checks.due("18: stripped", 0, () -> x.symbol(x.strip(0)));
        x.encode(0, 2);
        checks.due("18: decoded", 0, () -> x.symbol(x.decode(2, true)));
        checks.due("18: the empty text", 1, () -> x.symbol(3));
        checks.due("18: another empty one", 1, () -> x.symbol(x.take()));
        checks.due("18: a beginning of ab", 2, () -> x.symbol(1));
        TextDesk last = Desks.with("a".repeat(60), "a".repeat(59) + "b", "b" + "a".repeat(59));
        checks.due("18: 60 units", 0, () -> last.symbol(0));
        checks.due("18: the last one differs", 1, () -> last.symbol(1));
        checks.due("18: the first one differs", 2, () -> last.symbol(2));
        TextDesk y = Desks.with("Aa", "BB", "a", "\u0161");
        checks.due("18: Aa", 0, () -> y.symbol(0));
        checks.due("18: BB, of the same hash", 1, () -> y.symbol(1));
        checks.due("18: the unit 97", 2, () -> y.symbol(2));
        checks.due("18: the unit 256 + 97", 3, () -> y.symbol(3));
    }

    /** "0, 1, .. as they are new". */
    private static void symbolsFrom0AsTheyAreNew() {
        TextDesk x = Desks.with("a", "b", "c");
        checks.due("18: the first, text 2", 0, () -> x.symbol(2));
        checks.due("18: the first again", 0, () -> x.symbol(2));
        checks.due("18: the second, text 0", 1, () -> x.symbol(0));
        checks.due("18: the third, text 1", 2, () -> x.symbol(1));
        checks.due("18: none is skipped", 3, () -> x.symbol(x.take()));
    }

    /** "IllegalArgumentException: no such text". */
    private static void symbolNoSuchText() {
        for (int none : NO_TEXTS) {
            refusals.due("18: text " + none, Scenes::ordinary, Checks.ARGUMENT, x -> x.symbol(none));
        }
        checks.due("18: the last text", 2, () -> Scenes.ordinary().symbol(LAST_TEXT));
        refusals.due("18: text 24, and there are 16", Scenes::full, Checks.ARGUMENT, x -> x.symbol(24));
        refusals.due("18: text -1, and there are 16", Scenes::full, Checks.ARGUMENT, x -> x.symbol(-1));
    }

    /** "IllegalStateException: it is new, and there are 16". */
    private static void symbolIsNewAndThereAre16() {
        TextDesk x = Scenes.nearlyFull();
        checks.due("18: the 16th", 15, () -> x.symbol(22));
        checks.refused("18: the 17th", Checks.STATE, () -> x.symbol(21));
        checks.due("18: the 16th again", 15, () -> x.symbol(22));
        refusals.due("18: new, and there are 16", Scenes::full, Checks.STATE, y -> y.symbol(16));
        refusals.due("18: new, the last text", Scenes::full, Checks.STATE, y -> y.symbol(23));
        for (int text = 0; text < 16; text++) {
            int number = text;
            checks.due("18: not new, text " + text, text, () -> Scenes.full().symbol(number));
        }
        TextDesk equal = Scenes.nearlyFull();
        equal.symbol(15);
        int copy = equal.part(15, 0, 1);
        checks.due("18: an equal text is not new", 15, () -> equal.symbol(copy));
    }

    /** "All texts .. are gone". */
    private static void clearAllTextsAreGone() {
        for (int text : new int[] {0, 1, 23, 24}) {
            TextDesk x = Scenes.full();
            x.clear();
            checks.refused("23: text " + text, Checks.ARGUMENT, () -> x.at(text, -1));
            checks.refused("23: insert text " + text, Checks.ARGUMENT, () -> x.insert(0, text));
            checks.refused("23: encode text " + text, Checks.ARGUMENT, () -> x.encode(text, 0));
        }
        TextDesk x = Scenes.full();
        x.clear();
        checks.due("23: numbers begin again", 0, () -> x.take());
        for (int number = 1; number < 24; number++) {
            checks.due("23: text " + number + " again", number, () -> x.take());
        }
        checks.refused("23: the 25th again", Checks.STATE, () -> x.take());
    }

    /** "All .. symbols are gone". */
    private static void clearAllSymbolsAreGone() {
        TextDesk x = Scenes.full();
        x.clear();
        x.delete(0, 60);
        for (int number = 0; number < 17; number++) {
            Desks.text(x, 23 - number);
        }
        for (int number = 0; number < 16; number++) {
            int text = number;
            checks.due("23: symbol " + number + " again", number, () -> x.symbol(text));
        }
        checks.refused("23: the 17th again", Checks.STATE, () -> x.symbol(16));
    }

    /** "builder and bytes stay". */
    private static void clearBuilderAndBytesStay() {
        TextDesk x = Scenes.ordinary();
        x.clear();
        checks.row("23: the builder", Desks.built(x), 1, Scenes.HIGH, Scenes.LOW, 65535, 0);
        checks.row("23: the bytes", Desks.octets(x), 97, 226, 130);
        TextDesk full = Scenes.full();
        full.clear();
        checks.row("23: 60 units", Desks.built(full), Desks.times(2048, 60));
        checks.due("23: 200 bytes", 200, () -> full.octet(-1));
        checks.due("23: the 200th", 255, () -> full.octet(199));
        checks.refused("23: the 61st unit", Checks.STATE, () -> full.unit(1));
        checks.refused("23: the 201st byte", Checks.STATE, () -> full.type(1));
    }

    /** On a new object, and a second time, there is nothing to clear. */
    private static void clearWhereNothingIs() {
        refusals.answered("23: a new object", TextDesk::new, x -> x.clear());
        refusals.answered("23: a second time", () -> {
            TextDesk x = Scenes.ordinary();
            x.clear();
            return x;
        }, x -> x.clear());
    }
}
