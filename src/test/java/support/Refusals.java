/** Calls that must leave all that can be seen of a desk as it was, those that are refused above all. */
final class Refusals {
    interface Call {
        void on(TextDesk desk);
    }

    /** One part of what can be seen; it may change the desk, which is not looked at again. */
    private interface Look {
        long at(TextDesk desk, int k);
    }

    private final Checks checks;

    Refusals(Checks checks) {
        this.checks = checks;
    }

    /** A call is refused by an exception of this very class, and changes nothing. */
    void due(String call, Scenes.Scene scene, Class<? extends Throwable> due, Call act) {
        checks.same(call, outcome(scene.make(), act), due.getName());
        changesNothing(call, scene, act);
    }

    /** A call that only asks is answered, and changes nothing. */
    void answered(String call, Scenes.Scene scene, Call act) {
        checks.same(call, outcome(scene.make(), act), "0");
        changesNothing(call, scene, act);
    }

    private static String outcome(TextDesk desk, Call act) {
        return Checks.outcome(() -> {
            act.on(desk);
            return 0;
        });
    }

    private void changesNothing(String call, Scenes.Scene scene, Call act) {
        Scenes.Scene after = () -> {
            TextDesk desk = scene.make();
            outcome(desk, act);
            return desk;
        };
        same(call + ": the builder", scene, after, 61, TextDesk::built);
        same(call + ": the bytes", scene, after, 201, TextDesk::octet);
        for (int text = 0; text <= 24; text++) {
            int number = text;
            same(call + ": text " + text, scene, after, 61, (desk, k) -> desk.at(number, k));
        }
        same(call + ": symbols", scene, after, 24, TextDesk::symbol);
        nextCallsAnswerTheSame(call + ": the next ", scene, after);
    }

    /** Shows what cannot be asked for: how many texts there are, and whatever a refused call may leave behind. */
    private void nextCallsAnswerTheSame(String call, Scenes.Scene scene, Scenes.Scene after) {
        same(call + "unit", scene, after, 0, (desk, k) -> desk.unit(7));
        same(call + "insert", scene, after, 23, (desk, k) -> desk.insert(0, k));
        same(call + "take", scene, after, 0, (desk, k) -> desk.take());
        same(call + "join", scene, after, 23, (desk, k) -> desk.join(k, 2));
        same(call + "part", scene, after, 23, (desk, k) -> desk.part(k, 0, 0));
        same(call + "replace", scene, after, 23, (desk, k) -> desk.replace(k, k, 2));
        same(call + "strip", scene, after, 23, (desk, k) -> desk.strip(k));
        same(call + "type", scene, after, 0, (desk, k) -> desk.type(7));
        same(call + "decode", scene, after, 4, (desk, k) -> desk.decode(k, false));
    }

    private void same(String what, Scenes.Scene before, Scenes.Scene after, int last, Look look) {
        checks.same(what + " as before", seen(after.make(), last, look), seen(before.make(), last, look));
    }

    private static String seen(TextDesk desk, int last, Look look) {
        StringBuilder row = new StringBuilder();
        for (int k = -1; k <= last; k++) {
            int place = k;
            row.append(Checks.outcome(() -> look.at(desk, place))).append(' ');
        }
        return row.toString();
    }
}
