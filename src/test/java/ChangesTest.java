/** Promises 31 and 35 to 37: reason, undo, save and restore. */
public final class ChangesTest {
    private static final Checks CHECKS = new Checks("ChangesTest");

    public static void main(String[] args) {
        reason();
        reasonsStay();
        undoOfEach();
        undoOfEight();
        refusalsCostNoChange();
        saveAndRestore();
        restoreBehindOthers();
        whatStays();
        CHECKS.end();
    }

    private static void reason() {
        MouldFloor x = Floors.withFamily();
        CHECKS.fails("reason of nothing", Checks.ELEMENT, x, () -> x.reason(0, false));
        CHECKS.fails("detail of nothing", Checks.ELEMENT, x, () -> x.reason(0, true));
        CHECKS.fails("reason -1", Checks.ARGUMENT, x, () -> x.reason(-1, false));
        x.mount(0);
        x.load(0, 0, 5);
        CHECKS.due("a refusal with reasons behind it", Checks.REFUSED, () -> Floors.program(x, "w1;r0x1"));
        int[][] want = {{13, 1}, {10, 0}, {11, 59}};
        for (int depth = 0; depth < 3; depth++) {
            int place = depth;
            CHECKS.due("reason " + depth, want[depth][0], () -> x.reason(place, false));
            CHECKS.due("detail " + depth, want[depth][1], () -> x.reason(place, true));
        }
        CHECKS.fails("reason 3", Checks.ELEMENT, x, () -> x.reason(3, false));
        CHECKS.fails("detail of the most", Checks.ELEMENT, x, () -> x.reason(Integer.MAX_VALUE, true));
        CHECKS.fails("reason -1 of some", Checks.ARGUMENT, x, () -> x.reason(-1, true));
        CHECKS.fails("reason of the least", Checks.ARGUMENT, x, () -> x.reason(Integer.MIN_VALUE, true));
        CHECKS.refused("a refusal with none behind it", "2.0", x, () -> x.colour(10));
        CHECKS.fails("reason 1", Checks.ELEMENT, x, () -> x.reason(1, false));
        CHECKS.refused("a refusal with a detail", "10.0 11.60", x, () -> x.run(0, 1));
        CHECKS.refused("and one without", "13.0 10.0", x, () -> Floors.program(x, "r1x1"));
        CHECKS.refused("two", "13.0 4.0", x, () -> Floors.program(x, "m0"));
    }

    private static void reasonsStay() {
        MouldFloor x = Floors.withFamily();
        x.mount(0);
        x.load(0, 0, 5);
        x.save();
        CHECKS.refused("a refusal", "10.0 11.60", x, () -> x.run(0, 1));
        x.pause(60);
        CHECKS.due("the reasons behind a change", "10.0 11.60", () -> Floors.reasonsOf(x));
        x.undo();
        CHECKS.due("the reasons behind undo", "10.0 11.60", () -> Floors.reasonsOf(x));
        x.restore();
        CHECKS.due("the reasons behind restore", "10.0 11.60", () -> Floors.reasonsOf(x));
        CHECKS.due("a text with a fault", Checks.ARGUMENT, () -> Floors.program(x, "m"));
        CHECKS.due("a number out of range", Checks.ARGUMENT, () -> x.account(99));
        CHECKS.due("nothing to undo", Checks.STATE, () -> x.undo());
        CHECKS.due("the reasons behind other exceptions", "10.0 11.60", () -> Floors.reasonsOf(x));
        CHECKS.due("a program", 1, () -> Floors.program(x, "w1"));
        CHECKS.due("the reasons behind a program", "10.0 11.60", () -> Floors.reasonsOf(x));
    }

    private static void undone(String what, MouldFloor x, Runnable change) {
        String before = Floors.stateOf(x);
        int changes = x.account(13);
        change.run();
        String behind = Floors.stateOf(x);
        CHECKS.due("a change by " + what, false, () -> before.equals(behind));
        CHECKS.due("the changes by " + what, changes + 1, () -> x.account(13));
        CHECKS.due("undo of " + what, changes, () -> x.undo());
        CHECKS.due("the state behind undo of " + what, before, () -> Floors.stateOf(x));
        change.run();
        CHECKS.due("the state by " + what + " again", behind, () -> Floors.stateOf(x));
        x.save();
        x.restore();
    }

    private static void undoOfEach() {
        MouldFloor x = new MouldFloor();
        undone("colour", x, () -> x.colour(7));
        undone("colour", x, () -> x.colour(2));
        undone("part", x, () -> x.part(3));
        undone("part", x, () -> x.part(5));
        undone("family", x, () -> Floors.family(x, "7 9 0x2 1x3"));
        undone("family", x, () -> Floors.family(x, "1 2 1x1"));
        undone("mount", x, () -> x.mount(0));
        undone("load", x, () -> x.load(0, 0, 5000));
        undone("load", x, () -> x.load(1, 1, 7000));
        undone("load", x, () -> x.load(2, 1, 700));
        undone("empty", x, () -> x.empty(2));
        undone("order", x, () -> x.order(0, 0, 2, 0));
        undone("order", x, () -> x.order(1, 1, 1, 1));
        undone("order", x, () -> x.order(0, 0, 3, 0));
        undone("pause", x, () -> x.pause(60));
        undone("run", x, () -> x.run(0, 4));
        undone("run", x, () -> x.run(1, 4));
        undone("pause", x, () -> x.pause(999));
        undone("callOff", x, () -> x.callOff(2));
        int[] values = {70, 47, 4, 1};
        for (int what = 0; what < 4; what++) {
            int setting = what;
            undone("set", x, () -> x.set(setting, values[setting]));
        }
        undone("mount", x, () -> x.mount(1));
        undone("program", x, () -> Floors.program(x, "m0;r1x3;w99;l20g7"));
        CHECKS.due("the minutes of the week are undone too", 1, () -> {
            x.set(0, 9999);
            x.pause(999);
            x.undo();
            x.set(0, 60);
            return x.pause(60);
        });
    }

    private static void undoOfEight() {
        MouldFloor x = new MouldFloor();
        for (int change = 1; change <= 20; change++) {
            x.pause(change);
            int want = Math.min(change, 8);
            CHECKS.due("the changes", want, () -> x.account(13));
        }
        int now = 210;
        for (int left = 7; left >= 0; left--) {
            now -= 13 + left;
            int want = left;
            int time = now;
            CHECKS.due("undo", want, () -> x.undo());
            CHECKS.due("the time behind undo", time, () -> x.account(5));
        }
        CHECKS.fails("a ninth undo", Checks.STATE, x, () -> x.undo());
        x.pause(5);
        x.pause(6);
        x.undo();
        x.pause(7);
        CHECKS.due("undo of a change behind an undo", 1, () -> x.undo());
        CHECKS.due("the time", 78 + 5, () -> x.account(5));
    }

    private static void refusalsCostNoChange() {
        MouldFloor x = new MouldFloor();
        for (int change = 1; change <= 9; change++) {
            x.pause(change);
        }
        for (int refusal = 0; refusal < 20; refusal++) {
            CHECKS.refused("a refusal", "2.0", x, () -> x.pause(0));
            CHECKS.refused("a refused program", "13.2 2.0", x, () -> Floors.program(x, "w1;w2;w0"));
            CHECKS.due("a fault", Checks.ARGUMENT, () -> Floors.program(x, "w1;w2;w"));
        }
        for (int left = 7; left >= 0; left--) {
            int want = left;
            CHECKS.due("undo", want, () -> x.undo());
        }
        CHECKS.due("the time before all that are kept", 1, () -> x.account(5));
    }

    private static void saveAndRestore() {
        MouldFloor x = Floors.ready();
        CHECKS.fails("restore without a snapshot", Checks.STATE, x, () -> x.restore());
        x.order(0, 0, 1, 0);
        x.order(0, 1, 1, 0);
        x.run(1, 3);
        int changes = x.account(13);
        CHECKS.due("save", 2, () -> x.save());
        CHECKS.due("save is no change", changes, () -> x.account(13));
        String saved = Floors.valuesOf(x);
        x.order(0, 0, 2, 2);
        x.run(0, 9);
        x.colour(9);
        x.set(2, 5);
        CHECKS.due("restore", 2, () -> x.restore());
        CHECKS.due("nothing to undo behind it", 0, () -> x.account(13));
        CHECKS.fails("undo behind restore", Checks.STATE, x, () -> x.undo());
        CHECKS.due("the state", saved, () -> Floors.valuesOf(x));
        String restored = Floors.stateOf(x);
        x.order(0, 0, 2, 2);
        x.empty(0);
        x.undo();
        x.undo();
        CHECKS.due("the snapshot is kept", 2, () -> x.restore());
        CHECKS.due("the state", restored, () -> Floors.stateOf(x));
        x.part(9);
        x.order(1, 1, 1, 1);
        CHECKS.due("save in place of the snapshot", 3, () -> x.save());
        x.undo();
        CHECKS.due("undo does not change the snapshot", 3, () -> x.restore());
        CHECKS.due("the parts", 4, () -> x.account(1));
    }

    /** What came in the place of something that was undone goes again when that is restored. */
    private static void restoreBehindOthers() {
        MouldFloor x = new MouldFloor();
        x.colour(3);
        x.part(4);
        x.colour(7);
        x.part(5);
        Floors.family(x, "7 9 0x2 1x3");
        x.order(1, 1, 3, 6);
        x.save();
        String saved = Floors.valuesOf(x);
        for (int change = 0; change < 4; change++) {
            x.undo();
        }
        x.colour(1);
        x.part(2);
        Floors.family(x, "8 6 1x5");
        x.order(0, 0, 2, 1);
        String other = Floors.valuesOf(x);
        CHECKS.due("another floor", false, () -> saved.equals(other));
        CHECKS.due("restore", 1, () -> x.restore());
        CHECKS.due("the floor that was saved", saved, () -> Floors.valuesOf(x));
        x.mount(0);
        x.load(0, 1, 100);
        x.pause(60);
        x.run(1, 2);
        CHECKS.due("the crate size that was saved", 1, () -> x.stock(1, 1, 0));
        CHECKS.due("the pieces", 1, () -> x.stock(1, 1, 1));
    }

    private static void whatStays() {
        MouldFloor x = Floors.ready();
        x.save();
        Floors.typed(x, "w5;");
        x.pause(1);
        x.undo();
        CHECKS.due("the text behind undo", 3, () -> x.account(14));
        x.restore();
        CHECKS.due("the text behind restore", 3, () -> x.account(14));
        Floors.typed(x, "w6");
        x.save();
        CHECKS.due("the text behind save", 5, () -> x.account(14));
        CHECKS.due("the program", 2, () -> x.program());
        x.restore();
        CHECKS.due("restore brings no text back", 0, () -> x.account(14));
    }
}
