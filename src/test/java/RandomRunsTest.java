/** Long runs of all calls, with right and wrong arguments, compared with PlainDesk; the same runs each time. */
public final class RandomRunsTest {
    private static final int RUNS = 4000;
    private static final int CALLS = 300;
    private static final int[] UNITS = {
        97, 97, 98, 98, 97, 0, 9, 32, 127, 128, 255, 256, 2047, 2048, 55295, 55296, 55357, 56319, 56320, 56832, 57343,
        57344, 65533, 65535
    };
    private static final int[] BYTES = {
        97, 98, 0, 127, 128, 143, 144, 159, 160, 191, 192, 193, 194, 223, 224, 237, 239, 240, 244, 245, 255
    };
    private static final int[] FAR = {Integer.MIN_VALUE, Integer.MAX_VALUE, -2, 61, 201, 65536};

    private final Checks checks;
    private final TextDesk desk = new TextDesk();
    private final PlainDesk plain = new PlainDesk();
    private final String name;
    /** How many of 32 calls clear, or make a text, differs from run to run, so that all limits are met. */
    private final int flavour;
    private long state;

    private RandomRunsTest(Checks checks, int run) {
        this.checks = checks;
        name = "run " + run + ", call ";
        flavour = run % 4;
        state = run * 7919L + 17;
    }

    public static void main(String[] args) {
        Checks checks = new Checks();
        for (int run = 0; run < RUNS; run++) {
            new RandomRunsTest(checks, run).go(run);
        }
        checks.end();
    }

    private void go(int run) {
        for (int call = 0; call < CALLS; call++) {
            step(call);
        }
        if (run % 2 == 0) {
            for (int k = -1; k <= 60; k++) {
                int place = k;
                both("at the end, built(" + k + ")", () -> desk.built(place), () -> plain.built(place));
            }
        } else {
            for (int k = -1; k <= 200; k++) {
                int place = k;
                both("at the end, octet(" + k + ")", () -> desk.octet(place), () -> plain.octet(place));
            }
        }
    }

    private int below(int bound) {
        state = state * 6364136223846793005L + 1442695040888963407L;
        return (int) ((state >>> 33) % bound);
    }

    private int one(int[] row) {
        return row[below(row.length)];
    }

    /** A text that there is, most often. */
    private int text() {
        int wrong = below(40);
        if (wrong == 0) {
            return one(FAR);
        }
        return wrong == 1 ? plain.textCount() : below(Math.max(1, plain.textCount()));
    }

    private int place(int length) {
        return below(30) == 0 ? one(FAR) : below(length + 3) - 1;
    }

    private int encoding() {
        return below(30) == 0 ? one(FAR) : below(20) == 0 ? 5 : below(5);
    }

    private int lengthOf(int text) {
        return text >= 0 && text < plain.textCount() ? plain.at(text, -1) : 0;
    }

    private void step(int call) {
        String at = name + call + ": ";
        int choice = below(32);
        if (choice < 8) {
            build(at, choice);
        } else if (choice < 14) {
            makeText(at, choice);
        } else if (choice < 22) {
            ask(at, choice);
        } else if (choice < 31) {
            useBytes(at, choice);
        } else if (flavour < 2 || below(8) == 0) {
            both(at + "clear()", () -> { desk.clear(); return 0; }, plain::clear);
        }
    }

    private void build(String at, int choice) {
        int length = plain.built(-1);
        if (choice < 4) {
            int unit = below(40) == 0 ? one(FAR) : one(UNITS);
            both(at + "unit(" + unit + ")", () -> desk.unit(unit), () -> plain.unit(unit));
        } else if (choice == 4) {
            int place = place(length);
            int text = text();
            both(at + "insert(" + place + ", " + text + ")",
                    () -> desk.insert(place, text), () -> plain.insert(place, text));
        } else if (choice == 5) {
            int from = place(length);
            int to = below(3) == 0 ? place(length) : from + below(3);
            both(at + "delete(" + from + ", " + to + ")",
                    () -> { desk.delete(from, to); return 0; }, () -> plain.delete(from, to));
        } else if (choice == 6) {
            both(at + "reverse()", () -> { desk.reverse(); return 0; }, plain::reverse);
        } else {
            int k = place(length);
            both(at + "built(" + k + ")", () -> desk.built(k), () -> plain.built(k));
        }
    }

    private void makeText(String at, int choice) {
        int a = text();
        int b = text();
        int c = text();
        if (choice == 8 || choice == 9 && flavour == 1) {
            both(at + "take()", desk::take, plain::take);
        } else if (choice < 11) {
            both(at + "join(" + a + ", " + b + ")", () -> desk.join(a, b), () -> plain.join(a, b));
        } else if (choice == 11) {
            int from = place(lengthOf(a));
            int to = below(3) == 0 ? place(lengthOf(a)) : from + below(3);
            both(at + "part(" + a + ", " + from + ", " + to + ")",
                    () -> desk.part(a, from, to), () -> plain.part(a, from, to));
        } else if (choice == 12) {
            both(at + "replace(" + a + ", " + b + ", " + c + ")",
                    () -> desk.replace(a, b, c), () -> plain.replace(a, b, c));
        } else {
            both(at + "strip(" + a + ")", () -> desk.strip(a), () -> plain.strip(a));
        }
    }

    private void ask(String at, int choice) {
        int a = text();
        int b = text();
        int k = place(lengthOf(a));
        boolean last = below(2) == 0;
        switch (choice) {
            case 14 -> both(at + "at(" + a + ", " + k + ")", () -> desk.at(a, k), () -> plain.at(a, k));
            case 15 -> both(at + "character(" + a + ", " + k + ")",
                    () -> desk.character(a, k), () -> plain.character(a, k));
            case 16 -> both(at + "narrow(" + a + ")", () -> desk.narrow(a) ? 1 : 0, () -> plain.narrow(a));
            case 17 -> both(at + "hash(" + a + ")", () -> desk.hash(a), () -> plain.hash(a));
            case 18 -> both(at + "compare(" + a + ", " + b + ")", () -> desk.compare(a, b), () -> plain.compare(a, b));
            case 19, 20 -> both(at + "find(" + a + ", " + b + ", " + k + ", " + last + ")",
                    () -> desk.find(a, b, k, last), () -> plain.find(a, b, k, last));
            default -> both(at + "symbol(" + a + ")", () -> desk.symbol(a), () -> plain.symbol(a));
        }
    }

    private void useBytes(String at, int choice) {
        int encoding = encoding();
        int text = text();
        boolean strict = below(2) == 0;
        if (choice < 27 || flavour == 3 && choice < 30) {
            int value = below(40) == 0 ? one(FAR) : one(BYTES);
            both(at + "type(" + value + ")", () -> desk.type(value), () -> plain.type(value));
        } else if (choice == 27) {
            both(at + "encode(" + text + ", " + encoding + ")",
                    () -> desk.encode(text, encoding), () -> plain.encode(text, encoding));
        } else if (choice < 30) {
            both(at + "decode(" + encoding + ", " + strict + ")",
                    () -> desk.decode(encoding, strict), () -> plain.decode(encoding, strict));
        } else {
            int k = place(plain.octet(-1));
            both(at + "octet(" + k + ")", () -> desk.octet(k), () -> plain.octet(k));
        }
    }

    private void both(String call, Checks.Answer real, Checks.Answer model) {
        checks.same(call, Checks.outcome(real), Checks.outcome(model));
    }
}
