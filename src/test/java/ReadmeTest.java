/** The calls of README.md's example, line by line, with the answers that it tells. */
public final class ReadmeTest {
    private static final Checks checks = new Checks();

    public static void main(String[] args) {
        TextDesk desk = new TextDesk();
        checks.due("the first unit", 1, () -> desk.unit('a'));
        checks.due("the second unit", 2, () -> desk.unit(0x20AC));
        int price = desk.take();
        checks.due("its number", 0, () -> price);
        checks.due("the builder", 0, () -> desk.built(-1));
        int twice = desk.join(price, price);
        checks.due("units of the joined text", 4, () -> desk.at(twice, -1));
        checks.due("the second price", 2, () -> desk.find(twice, price, 1, false));
        checks.due("bytes in UTF-8", 4, () -> desk.encode(price, 0));
        checks.due("the first byte", 97, () -> desk.octet(0));
        int back = desk.decode(0, true);
        checks.due("its number", 2, () -> back);
        checks.due("compared", 0, () -> desk.compare(price, back));
        checks.due("one symbol", 1, () -> desk.symbol(price) == desk.symbol(back) ? 1 : 0);
        checks.refused("no such text", Checks.ARGUMENT, () -> desk.narrow(3));
        checks.end();
    }
}
