/** Promises 16 to 18 and 23: comparing, searching, symbols, and clear. */
public final class SearchTest {
    private static final Checks checks = new Checks();

    public static void main(String[] args) {
        compare();
        findFirst();
        findLast();
        symbol();
        symbolRefused();
        clear();
        checks.end();
    }

    private static void compare() {
        TextDesk x = new TextDesk();
        Desks.text(x, "abc");
        Desks.text(x, "abd");
        Desks.text(x, "ab");
        Desks.text(x);
        Desks.text(x, 65535);
        Desks.text(x, 0);
        Desks.text(x, "abc");
        checks.due("16: less", -1, () -> x.compare(0, 1));
        checks.due("16: more", 1, () -> x.compare(1, 0));
        checks.due("16: longer", 1, () -> x.compare(0, 2));
        checks.due("16: shorter", -3, () -> x.compare(3, 0));
        checks.due("16: equal", 0, () -> x.compare(0, 6));
        checks.due("16: itself", 0, () -> x.compare(3, 3));
        checks.due("16: a wide one less a narrow one", 65535, () -> x.compare(4, 5));
        checks.due("16: a narrow one less a wide one", -65535, () -> x.compare(5, 4));
        checks.due("16: a unit goes before the length", 97 - 65535, () -> x.compare(0, 4));
        checks.due("16: joined and not", 0, () -> x.compare(x.join(2, 4), x.join(2, 4)));
        for (int bad : new int[] {-1, 9, Integer.MAX_VALUE}) {
            checks.refused("16: a = " + bad, Checks.ARGUMENT, () -> x.compare(bad, 0));
            checks.refused("16: b = " + bad, Checks.ARGUMENT, () -> x.compare(0, bad));
        }
    }

    /** Texts: 0 is abcabca, 1 is abc, 2 is empty, 3 is ca, 4 is abcabcab, 5 is x. */
    private static TextDesk searched() {
        TextDesk x = new TextDesk();
        Desks.text(x, "abcabca");
        Desks.text(x, "abc");
        Desks.text(x);
        Desks.text(x, "ca");
        Desks.text(x, "abcabcab");
        Desks.text(x, "x");
        return x;
    }

    private static void findFirst() {
        TextDesk x = searched();
        checks.due("17: from 0", 0, () -> x.find(0, 1, 0, false));
        checks.due("17: from 1", 3, () -> x.find(0, 1, 1, false));
        checks.due("17: from 3 itself", 3, () -> x.find(0, 1, 3, false));
        checks.due("17: from 4", -1, () -> x.find(0, 1, 4, false));
        checks.due("17: from below 0", 0, () -> x.find(0, 1, Integer.MIN_VALUE, false));
        checks.due("17: from far above", -1, () -> x.find(0, 1, Integer.MAX_VALUE, false));
        checks.due("17: at the very end", 5, () -> x.find(0, 3, 3, false));
        checks.due("17: longer than a", -1, () -> x.find(0, 4, 0, false));
        checks.due("17: not in a", -1, () -> x.find(0, 5, 0, false));
        checks.due("17: an empty b", 4, () -> x.find(0, 2, 4, false));
        checks.due("17: an empty b at the end", 7, () -> x.find(0, 2, 7, false));
        checks.due("17: an empty b beyond the end", -1, () -> x.find(0, 2, 8, false));
        checks.due("17: empty in empty", 0, () -> x.find(2, 2, -3, false));
        checks.refused("17: no such a", Checks.ARGUMENT, () -> x.find(6, 0, 0, false));
        checks.refused("17: no such b", Checks.ARGUMENT, () -> x.find(0, -1, 0, false));
    }

    private static void findLast() {
        TextDesk x = searched();
        checks.due("17: last from 99", 3, () -> x.find(0, 1, 99, true));
        checks.due("17: last from 3 itself", 3, () -> x.find(0, 1, 3, true));
        checks.due("17: last from 2", 0, () -> x.find(0, 1, 2, true));
        checks.due("17: last from 0", 0, () -> x.find(0, 1, 0, true));
        checks.due("17: last from -1", -1, () -> x.find(0, 1, -1, true));
        checks.due("17: last from far below", -1, () -> x.find(0, 2, Integer.MIN_VALUE, true));
        checks.due("17: last from far above", 7, () -> x.find(0, 2, Integer.MAX_VALUE, true));
        checks.due("17: last, an empty b", 4, () -> x.find(0, 2, 4, true));
        checks.due("17: last, longer than a", -1, () -> x.find(0, 4, 9, true));
        checks.due("17: last, not in a", -1, () -> x.find(0, 5, 9, true));
        checks.refused("17: last, no such a", Checks.ARGUMENT, () -> x.find(-1, 0, 0, true));
        checks.refused("17: last, no such b", Checks.ARGUMENT, () -> x.find(0, 6, 0, true));
    }

    private static void symbol() {
        TextDesk x = new TextDesk();
        Desks.text(x, "ab");
        Desks.text(x, "a");
        Desks.text(x, "b");
        Desks.text(x);
        x.join(1, 2);
        Desks.text(x, 97, 300);
        checks.due("18: the first", 0, () -> x.symbol(2));
        checks.due("18: the second", 1, () -> x.symbol(0));
        checks.due("18: the same text", 0, () -> x.symbol(2));
        checks.due("18: an equal text", 1, () -> x.symbol(4));
        checks.due("18: an empty one", 2, () -> x.symbol(3));
        checks.due("18: a beginning of another one", 3, () -> x.symbol(1));
        checks.due("18: a wide one", 4, () -> x.symbol(5));
        checks.refused("18: no such text", Checks.ARGUMENT, () -> x.symbol(6));
        checks.refused("18: text -1", Checks.ARGUMENT, () -> x.symbol(-1));
        Desks.text(x, "Aa");
        Desks.text(x, "BB");
        checks.due("18: Aa", 5, () -> x.symbol(6));
        checks.due("18: BB has the hash of Aa, but is another text", 6, () -> x.symbol(7));
    }

    private static void symbolRefused() {
        TextDesk x = new TextDesk();
        for (int k = 0; k < 17; k++) {
            Desks.text(x, k);
        }
        for (int k = 0; k < 16; k++) {
            int number = k;
            checks.due("18: symbol " + k, k, () -> x.symbol(number));
        }
        checks.refused("18: the 17th", Checks.STATE, () -> x.symbol(16));
        checks.refused("18: no such text, and no room", Checks.ARGUMENT, () -> x.symbol(17));
        checks.due("18: one that is not new", 15, () -> x.symbol(15));
        checks.due("18: and the first", 0, () -> x.symbol(0));
    }

    private static void clear() {
        TextDesk x = new TextDesk();
        Desks.text(x, "a");
        Desks.text(x, "b");
        x.symbol(0);
        x.symbol(1);
        Desks.build(x, 5, 6);
        Desks.type(x, 7, 8, 9);
        x.clear();
        checks.row("23: the builder stays", Desks.built(x), 5, 6);
        checks.row("23: the bytes stay", Desks.octets(x), 7, 8, 9);
        checks.refused("23: no text 0", Checks.ARGUMENT, () -> x.at(0, -1));
        checks.refused("23: no text 1", Checks.ARGUMENT, () -> x.symbol(1));
        checks.due("23: texts begin again", 0, () -> x.take());
        checks.due("23: symbols begin again", 0, () -> x.symbol(0));
        checks.due("23: b is new again", 1, () -> x.symbol(Desks.text(x, "b")));
        Desks.fillTexts(x, 2);
        x.clear();
        x.clear();
        checks.due("23: there is room again", 0, () -> x.take());
    }
}
