/** Promises 8 to 15: new texts from others, and what a text is asked. */
public final class TextsTest {
    private static final Checks checks = new Checks();
    private static final int HIGH = 55296;
    private static final int LOW = 56320;

    public static void main(String[] args) {
        join();
        joinRefused();
        joinDeep();
        part();
        replace();
        replaceRefused();
        strip();
        at();
        character();
        narrow();
        hash();
        checks.end();
    }

    private static void join() {
        TextDesk x = new TextDesk();
        Desks.text(x, 1, 2);
        Desks.text(x, 300);
        Desks.text(x);
        checks.due("8: its number", 3, () -> x.join(0, 1));
        checks.row("8: b behind a", Desks.units(x, 3), 1, 2, 300);
        checks.due("8: with itself", 4, () -> x.join(3, 3));
        checks.row("8: twice", Desks.units(x, 4), 1, 2, 300, 1, 2, 300);
        checks.row("8: a empty", Desks.units(x, x.join(2, 0)), 1, 2);
        checks.row("8: b empty", Desks.units(x, x.join(1, 2)), 300);
        checks.row("8: both empty", Desks.units(x, x.join(2, 2)));
        checks.row("8: a stays", Desks.units(x, 0), 1, 2);
        checks.row("8: b stays", Desks.units(x, 1), 300);
    }

    private static void joinRefused() {
        TextDesk x = new TextDesk();
        Desks.text(x, Desks.times(5, 30));
        Desks.text(x, 5);
        for (int bad : new int[] {-1, 2, 24, Integer.MIN_VALUE, Integer.MAX_VALUE}) {
            checks.refused("8: a = " + bad, Checks.ARGUMENT, () -> x.join(bad, 0));
            checks.refused("8: b = " + bad, Checks.ARGUMENT, () -> x.join(0, bad));
        }
        checks.due("8: 60 units", 2, () -> x.join(0, 0));
        checks.refused("8: 61 units", Checks.STATE, () -> x.join(2, 1));
        checks.due("8: a refused one has no number", 3, () -> x.join(1, 1));
        Desks.fillTexts(x, 4);
        checks.refused("8: there are 24", Checks.STATE, () -> x.join(1, 1));
        checks.refused("8: no such text, and there are 24", Checks.ARGUMENT, () -> x.join(1, 24));
    }

    private static void joinDeep() {
        TextDesk left = new TextDesk();
        TextDesk right = new TextDesk();
        TextDesk empty = new TextDesk();
        Desks.text(left, 7, 300);
        Desks.text(right, 7, 300);
        empty.take();
        for (int k = 1; k < 24; k++) {
            left.join(k - 1, 0);
            right.join(0, k - 1);
            empty.join(k - 1, k - 1);
        }
        checks.due("8: a chain to the left", 48, () -> left.at(23, -1));
        checks.due("8: its last unit", 300, () -> left.at(23, 47));
        checks.due("8: a chain to the right", 7, () -> right.at(23, 46));
        checks.due("8: nothing doubled again and again", 0, () -> empty.at(23, -1));
        checks.due("8: and its hash", 0, () -> empty.hash(23));
    }

    private static void part() {
        TextDesk x = new TextDesk();
        Desks.text(x, 1, 300, 3, 4);
        checks.due("9: its number", 1, () -> x.part(0, 1, 3));
        checks.row("9: from 1 before 3", Desks.units(x, 1), 300, 3);
        checks.row("9: all", Desks.units(x, x.part(0, 0, 4)), 1, 300, 3, 4);
        checks.row("9: none", Desks.units(x, x.part(0, 2, 2)));
        checks.row("9: none at the end", Desks.units(x, x.part(0, 4, 4)));
        checks.row("9: of a joined text", Desks.units(x, x.part(x.join(0, 1), 3, 5)), 4, 300);
        checks.refused("9: from -1", Checks.BOUNDS, () -> x.part(0, -1, 2));
        checks.refused("9: from above to", Checks.BOUNDS, () -> x.part(0, 3, 2));
        checks.refused("9: to above the length", Checks.BOUNDS, () -> x.part(0, 0, 5));
        checks.refused("9: from above the length", Checks.BOUNDS, () -> x.part(0, 5, 5));
        checks.refused("9: no such text", Checks.ARGUMENT, () -> x.part(7, 0, 0));
        checks.refused("9: no such text or range", Checks.ARGUMENT, () -> x.part(-1, 3, 2));
        checks.due("9: refused ones have no numbers", 7, () -> x.part(0, 0, 1));
        Desks.fillTexts(x, 8);
        checks.refused("9: there are 24", Checks.STATE, () -> x.part(0, 0, 1));
        checks.refused("9: a bad range, and there are 24", Checks.BOUNDS, () -> x.part(0, 0, 5));
    }

    private static void replace() {
        checks.row("10: two places", replaced("abcab", "ab", "x"), 'x', 'c', 'x');
        checks.row("10: by more", replaced("aba", "a", "cd"), 'c', 'd', 'b', 'c', 'd');
        checks.row("10: none over another one", replaced("aaaaa", "aa", "b"), 'b', 'b', 'a');
        checks.row("10: not again in c", replaced("ab", "a", "aa"), 'a', 'a', 'b');
        checks.row("10: no new place across c", replaced("aab", "ab", ""), 'a');
        checks.row("10: a beginning of b only", replaced("aab", "abb", "x"), 'a', 'a', 'b');
        checks.row("10: by nothing", replaced("abab", "ab", ""));
        checks.row("10: b is not in a", replaced("abc", "d", "x"), 'a', 'b', 'c');
        checks.row("10: b is longer than a", replaced("ab", "abc", "x"), 'a', 'b');
        checks.row("10: b is all of a", replaced("ab", "ab", "xyz"), 'x', 'y', 'z');
        checks.row("10: b is empty", replaced("ab", "", "xy"), 'x', 'y', 'a', 'x', 'y', 'b', 'x', 'y');
        checks.row("10: a and b are empty", replaced("", "", "xy"), 'x', 'y');
        checks.row("10: b and c are empty", replaced("ab", "", ""), 'a', 'b');
        checks.row("10: a is empty", replaced("", "a", "b"));
        checks.row("10: empty b goes into pairs", replaced("\ud800\udc00", "", "x"), 'x', HIGH, 'x', LOW, 'x');
    }

    private static int[] replaced(String a, String b, String c) {
        TextDesk x = new TextDesk();
        Desks.text(x, a);
        Desks.text(x, b);
        Desks.text(x, c);
        checks.due("10: its number", 3, () -> x.replace(0, 1, 2));
        checks.row("10: a stays", Desks.units(x, 0), a.chars().toArray());
        return Desks.units(x, 3);
    }

    private static void replaceRefused() {
        TextDesk x = new TextDesk();
        Desks.text(x, Desks.times('a', 30));
        Desks.text(x, "a");
        Desks.text(x, "bb");
        Desks.text(x, "bbb");
        Desks.text(x);
        checks.due("10: 60 units", 5, () -> x.replace(0, 1, 2));
        checks.refused("10: 90 units", Checks.STATE, () -> x.replace(0, 1, 3));
        checks.refused("10: 61 units, b is empty", Checks.STATE, () -> x.replace(0, 4, 1));
        checks.refused("10: by far too many", Checks.STATE, () -> x.replace(5, 4, 5));
        for (int bad : new int[] {-1, 6, Integer.MAX_VALUE}) {
            checks.refused("10: a = " + bad, Checks.ARGUMENT, () -> x.replace(bad, 1, 2));
            checks.refused("10: b = " + bad, Checks.ARGUMENT, () -> x.replace(0, bad, 2));
            checks.refused("10: c = " + bad, Checks.ARGUMENT, () -> x.replace(0, 1, bad));
        }
        checks.due("10: refused ones have no numbers", 6, () -> x.replace(0, 1, 4));
        Desks.fillTexts(x, 7);
        checks.refused("10: there are 24", Checks.STATE, () -> x.replace(0, 1, 2));
    }

    private static void strip() {
        checks.row("11: both ends", stripped(32, 0, 97, 32, 98, 9, 31), 97, 32, 98);
        checks.row("11: 32 goes, 33 stays", stripped(32, 33, 32), 33);
        checks.row("11: wide units stay", stripped(160, 8195, 32), 160, 8195);
        checks.row("11: nothing to strip", stripped(97, 98), 97, 98);
        checks.row("11: all", stripped(32, 10, 0));
        checks.row("11: of none", stripped());
        TextDesk x = new TextDesk();
        Desks.text(x, 32, 97);
        checks.refused("11: no such text", Checks.ARGUMENT, () -> x.strip(1));
        checks.refused("11: text -1", Checks.ARGUMENT, () -> x.strip(-1));
        Desks.fillTexts(x, 1);
        checks.refused("11: there are 24", Checks.STATE, () -> x.strip(0));
    }

    private static int[] stripped(int... units) {
        TextDesk x = new TextDesk();
        Desks.text(x, units);
        checks.due("11: its number", 1, () -> x.strip(0));
        return Desks.units(x, 1);
    }

    private static void at() {
        TextDesk x = new TextDesk();
        Desks.text(x, 0, 255, 65535);
        Desks.text(x);
        Desks.text(x, 0, 128, 255);
        checks.due("12: how many", 3, () -> x.at(0, -1));
        checks.due("12: unit 0", 0, () -> x.at(0, 0));
        checks.due("12: unit 1", 255, () -> x.at(0, 1));
        checks.due("12: unit 2", 65535, () -> x.at(0, 2));
        checks.row("12: of a narrow text", Desks.units(x, 2), 0, 128, 255);
        checks.due("12: none", 0, () -> x.at(1, -1));
        for (int bad : new int[] {-2, 3, Integer.MIN_VALUE, Integer.MAX_VALUE}) {
            checks.refused("12: unit " + bad, Checks.BOUNDS, () -> x.at(0, bad));
            checks.refused("12: unit " + bad + ", narrow", Checks.BOUNDS, () -> x.at(2, bad));
            checks.refused("12: text " + bad, Checks.ARGUMENT, () -> x.at(bad, -1));
        }
        checks.refused("12: of an empty text", Checks.BOUNDS, () -> x.at(1, 0));
        checks.refused("12: no such text or unit", Checks.ARGUMENT, () -> x.at(3, 9));
    }

    private static void character() {
        TextDesk x = new TextDesk();
        Desks.text(x, 97, HIGH, LOW, 98, 56319, 57343, LOW, HIGH, HIGH, 57343, HIGH);
        Desks.text(x);
        int[] due = {97, 65536, 98, 1114111, LOW, HIGH, 65536 + 1023, HIGH};
        checks.due("13: how many", due.length, () -> x.character(0, -1));
        for (int k = 0; k < due.length; k++) {
            int number = k;
            checks.due("13: character " + k, due[k], () -> x.character(0, number));
        }
        checks.due("13: none", 0, () -> x.character(1, -1));
        for (int bad : new int[] {-2, 8, Integer.MIN_VALUE, Integer.MAX_VALUE}) {
            checks.refused("13: character " + bad, Checks.BOUNDS, () -> x.character(0, bad));
        }
        checks.refused("13: of an empty text", Checks.BOUNDS, () -> x.character(1, 0));
        checks.refused("13: no such text", Checks.ARGUMENT, () -> x.character(2, -1));
        checks.refused("13: text -1", Checks.ARGUMENT, () -> x.character(-1, 99));
        Desks.text(x, HIGH);
        Desks.text(x, LOW);
        checks.due("13: a pair over a join", 65536, () -> x.character(x.join(2, 3), 0));
    }

    private static void narrow() {
        TextDesk x = new TextDesk();
        Desks.text(x, 0, 255);
        Desks.text(x, 97, 256);
        Desks.text(x);
        checks.due("14: up to 255", 1, () -> x.narrow(0) ? 1 : 0);
        checks.due("14: 256", 0, () -> x.narrow(1) ? 1 : 0);
        checks.due("14: empty", 1, () -> x.narrow(2) ? 1 : 0);
        checks.due("14: narrow with wide", 0, () -> x.narrow(x.join(0, 1)) ? 1 : 0);
        checks.due("14: wide with narrow", 0, () -> x.narrow(x.join(1, 0)) ? 1 : 0);
        checks.due("14: narrow with narrow", 1, () -> x.narrow(x.join(0, 0)) ? 1 : 0);
        checks.due("14: a narrow part of a wide one", 1, () -> x.narrow(x.part(1, 0, 1)) ? 1 : 0);
        checks.due("14: the wide unit replaced", 1, () -> x.narrow(x.replace(1, x.part(1, 1, 2), 2)) ? 1 : 0);
        checks.refused("14: no such text", Checks.ARGUMENT, () -> x.narrow(9));
        checks.refused("14: text -1", Checks.ARGUMENT, () -> x.narrow(-1));
    }

    private static void hash() {
        TextDesk x = new TextDesk();
        Desks.text(x);
        Desks.text(x, "abc");
        Desks.text(x, 65535, 65535, 65535, 65535, 65535);
        Desks.text(x, 0, 0, 1);
        checks.due("15: of none", 0, () -> x.hash(0));
        checks.due("15: of abc", 96354, () -> x.hash(1));
        checks.due("15: it wraps", "\uffff\uffff\uffff\uffff\uffff".hashCode(), () -> x.hash(2));
        checks.due("15: leading zeros", 1, () -> x.hash(3));
        checks.due("15: of a joined text", "abcabc".hashCode(), () -> x.hash(x.join(1, 1)));
        checks.refused("15: no such text", Checks.ARGUMENT, () -> x.hash(5));
        checks.refused("15: text -1", Checks.ARGUMENT, () -> x.hash(-1));
    }
}
