/** Promises 13 to 15, 27 to 30 and 33: order, callOff, set, orderOf, shots, letter, due and lateness. */
public final class OrdersTest {
    private static final Checks CHECKS = new Checks("OrdersTest");

    public static void main(String[] args) {
        order();
        orderRefusals();
        callOff();
        set();
        orderOf();
        delivery();
        deliveryInOrder();
        deliveryOfTen();
        shots();
        shotsByColour();
        letter();
        due();
        lateness();
        CHECKS.end();
    }

    private static void order() {
        MouldFloor x = Floors.withShades(1, 2);
        CHECKS.due("order", 0, () -> x.order(2, 1, 20, 99));
        CHECKS.due("order", 1, () -> x.order(0, 0, 1, 0));
        CHECKS.due("the orders", 2, () -> x.account(3));
        CHECKS.due("the open ones", 2, () -> x.account(4));
        for (int number = 2; number < 10; number++) {
            CHECKS.due("order", number, () -> x.order(1, 0, 5, 7));
        }
        CHECKS.refused("an eleventh order", "3.0", x, () -> x.order(0, 0, 1, 0));
        CHECKS.refused("2 ahead of 3", "2.0", x, () -> x.order(0, 0, 0, 0));
        x.callOff(4);
        CHECKS.refused("called off ones stay", "3.0", x, () -> x.order(0, 0, 1, 0));
    }

    private static void orderRefusals() {
        MouldFloor x = Floors.withShades(1, 2);
        CHECKS.refused("no part", "1.0", x, () -> x.order(3, 0, 0, 0));
        CHECKS.refused("part -1", "1.0", x, () -> x.order(-1, 0, 1, 0));
        CHECKS.refused("no colour", "1.0", x, () -> x.order(0, 2, 0, 0));
        CHECKS.refused("colour -1", "1.0", x, () -> x.order(0, -1, 1, 0));
        CHECKS.refused("no crates", "2.0", x, () -> x.order(0, 0, 0, 0));
        CHECKS.refused("21 crates", "2.0", x, () -> x.order(0, 0, 21, 0));
        CHECKS.refused("week -1", "2.0", x, () -> x.order(0, 0, 1, -1));
        CHECKS.refused("week 100", "2.0", x, () -> x.order(0, 0, 1, 100));
    }

    private static void callOff() {
        MouldFloor x = Floors.ready();
        x.order(0, 0, 1, 0);
        x.order(0, 0, 2, 0);
        x.order(0, 0, 1, 5);
        CHECKS.refused("no order", "1.0", x, () -> x.callOff(3));
        CHECKS.refused("order -1", "1.0", x, () -> x.callOff(-1));
        CHECKS.due("callOff", 2, () -> x.callOff(1));
        CHECKS.due("its state", 2, () -> x.orderOf(1, 4));
        CHECKS.refused("callOff again", "9.0", x, () -> x.callOff(1));
        x.run(0, 2);
        x.pause(480);
        CHECKS.due("delivered", 1, () -> x.orderOf(0, 4));
        CHECKS.refused("callOff of a delivered one", "9.0", x, () -> x.callOff(0));
        CHECKS.due("called off, it is not late", 0, () -> x.orderOf(1, 5));
        CHECKS.due("callOff of the last one", 0, () -> x.callOff(2));
        CHECKS.due("the orders", 3, () -> x.account(3));
        CHECKS.due("the open ones", 0, () -> x.account(4));
    }

    private static void set() {
        MouldFloor x = new MouldFloor();
        int[][] settings = {{480, 60, 9999}, {60, 0, 999}, {2, 0, 5}, {10, 0, 99}};
        CHECKS.refused("set 4", "2.0", x, () -> x.set(4, 60));
        CHECKS.refused("set -1", "2.0", x, () -> x.set(-1, 60));
        for (int what = 0; what < 4; what++) {
            int number = what;
            int[] setting = settings[what];
            CHECKS.refused("set less than " + setting[1], "2.0", x, () -> x.set(number, setting[1] - 1));
            CHECKS.refused("set more than " + setting[2], "2.0", x, () -> x.set(number, setting[2] + 1));
            CHECKS.due("set to the least", setting[0], () -> x.set(number, setting[1]));
            CHECKS.due("the least", setting[1], () -> x.account(15 + number));
            CHECKS.due("set to the most", setting[1], () -> x.set(number, setting[2]));
            CHECKS.due("the most", setting[2], () -> x.account(15 + number));
        }
        CHECKS.due("changes by set", 8, () -> x.account(13));
        x.undo();
        CHECKS.due("changes", 7, () -> x.account(13));
        CHECKS.due("set to what it is", 0, () -> x.set(3, 0));
        CHECKS.due("is a change too", 8, () -> x.account(13));
    }

    private static void orderOf() {
        MouldFloor x = Floors.withShades(1, 2);
        x.order(2, 1, 20, 99);
        x.order(1, 0, 3, 4);
        int[][] want = {{2, 1, 20, 99, 0, 0}, {1, 0, 3, 4, 0, 0}};
        for (int order = 0; order < 2; order++) {
            for (int what = 0; what < 6; what++) {
                int number = order;
                int place = what;
                CHECKS.due("orderOf " + order + ", " + what, want[order][what], () -> x.orderOf(number, place));
            }
        }
        CHECKS.fails("orderOf of no order", Checks.INDEX, x, () -> x.orderOf(2, 6));
        CHECKS.fails("orderOf of -1", Checks.INDEX, x, () -> x.orderOf(-1, 0));
        CHECKS.fails("orderOf what 6", Checks.ARGUMENT, x, () -> x.orderOf(1, 6));
        CHECKS.fails("orderOf what -1", Checks.ARGUMENT, x, () -> x.orderOf(1, -1));
    }

    private static void delivery() {
        MouldFloor x = Floors.ready();
        x.order(0, 0, 2, 1);
        x.run(0, 5);
        CHECKS.due("the crates", 2, () -> x.stock(0, 0, 0));
        x.pause(385);
        CHECKS.due("its week is not yet", 0, () -> x.orderOf(0, 4));
        CHECKS.due("nor late", 0, () -> x.orderOf(0, 5));
        x.pause(479);
        CHECKS.due("not before the end of the week", 0, () -> x.orderOf(0, 4));
        x.pause(1);
        CHECKS.due("at its end", 1, () -> x.orderOf(0, 4));
        CHECKS.due("the crates are gone", 0, () -> x.stock(0, 0, 0));
        CHECKS.due("they were delivered", 2, () -> x.stock(0, 0, 2));
        CHECKS.due("the rest stays", 2, () -> x.stock(0, 0, 1));
        CHECKS.due("pieces in crates, delivered or not", 8, () -> x.made(0, 1));
        x.order(1, 0, 2, 0);
        x.pause(480);
        x.pause(480);
        CHECKS.due("an order of a week before is late by the weeks since", 2, () -> x.orderOf(1, 5));
        CHECKS.due("its crates stay", 1, () -> x.stock(1, 0, 0));
        x.run(0, 1);
        x.pause(480);
        CHECKS.due("delivered", 1, () -> x.orderOf(1, 4));
        CHECKS.due("late for ever", 2, () -> x.orderOf(1, 5));
        x.pause(480);
        CHECKS.due("late for ever", 2, () -> x.orderOf(1, 5));
    }

    private static void deliveryInOrder() {
        MouldFloor x = Floors.ready();
        x.order(0, 0, 3, 0);
        x.order(0, 1, 1, 0);
        x.order(0, 0, 1, 0);
        x.order(0, 0, 2, 0);
        x.run(0, 4);
        x.pause(480);
        CHECKS.due("too few for the first", 0, () -> x.orderOf(0, 4));
        CHECKS.due("none in the other colour", 0, () -> x.orderOf(1, 4));
        CHECKS.due("enough for the next", 1, () -> x.orderOf(2, 4));
        CHECKS.due("too few behind it", 0, () -> x.orderOf(3, 4));
        CHECKS.due("late", 1, () -> x.orderOf(3, 5));
        CHECKS.due("not late", 0, () -> x.orderOf(2, 5));
        CHECKS.due("left", 1, () -> x.stock(0, 0, 0));
        x.run(0, 4);
        x.pause(480);
        CHECKS.due("the lower one first", 1, () -> x.orderOf(0, 4));
        CHECKS.due("none for the other", 2, () -> x.orderOf(3, 5));
        CHECKS.due("the crates of both deliveries", 4, () -> x.stock(0, 0, 2));
    }

    private static void deliveryOfTen() {
        MouldFloor x = Floors.ready();
        for (int order = 0; order < 10; order++) {
            x.order(0, 0, 1, order % 2);
        }
        x.run(0, 16);
        x.pause(480);
        CHECKS.due("those of the week 0 are delivered", 0b1010101010, () -> x.due(99));
        x.pause(480);
        CHECKS.due("three of the others are delivered too", 0b1010000000, () -> x.due(99));
        x.run(0, 2);
        x.pause(480);
        CHECKS.due("the seventh is delivered", 0b1000000000, () -> x.due(99));
        CHECKS.due("a week late", 1, () -> x.orderOf(7, 5));
        CHECKS.due("the last one is late by two", 2, () -> x.orderOf(9, 5));
        CHECKS.due("lateness of nine", 1.0 / 9.0, () -> x.lateness());
        CHECKS.due("one is open", 1, () -> x.account(4));
    }

    private static void shots() {
        MouldFloor x = Floors.withFamily();
        x.order(0, 0, 2, 0);
        x.order(2, 0, 1, 0);
        x.order(1, 0, 2, 0);
        CHECKS.fails("shots of no order", Checks.INDEX, x, () -> x.shots(3));
        CHECKS.fails("shots of -1", Checks.INDEX, x, () -> x.shots(-1));
        CHECKS.fails("shots with none mounted", Checks.ELEMENT, x, () -> x.shots(0));
        x.mount(0);
        CHECKS.due("shots", 4, () -> x.shots(0));
        CHECKS.due("shots of the part 1", 6, () -> x.shots(2));
        CHECKS.fails("shots of a part that it does not have", Checks.ELEMENT, x, () -> x.shots(1));
        x.load(0, 0, 1000);
        x.pause(60);
        x.run(0, 1);
        CHECKS.due("shots by an open crate", 3, () -> x.shots(0));
        x.order(0, 0, 1, 0);
        CHECKS.due("whatever other orders have", 3, () -> x.shots(0));
        x.run(0, 1);
        CHECKS.due("shots by a closed crate", 2, () -> x.shots(0));
        CHECKS.due("0 with as many", 0, () -> x.shots(3));
        x.run(0, 4);
        CHECKS.due("0 with more", 0, () -> x.shots(3));
        x.callOff(3);
        CHECKS.fails("shots of one that is called off", Checks.ELEMENT, x, () -> x.shots(3));
        x.pause(480);
        CHECKS.fails("shots of a delivered one", Checks.ELEMENT, x, () -> x.shots(0));
        Floors.family(x, "1 1 2x3");
        x.mount(1);
        CHECKS.due("shots are rounded up", 2, () -> x.shots(1));
        CHECKS.fails("shots of another family's part", Checks.ELEMENT, x, () -> x.shots(2));
    }

    private static void shotsByColour() {
        MouldFloor x = Floors.ready();
        x.order(1, 1, 3, 0);
        x.order(1, 0, 3, 0);
        x.run(1, 4);
        CHECKS.due("shots by the crates of the colour", 5, () -> x.shots(0));
        CHECKS.due("shots without any", 9, () -> x.shots(1));
        x.order(1, 1, 1, 0);
        CHECKS.due("0 with as many and 1 piece a shot", 0, () -> x.shots(2));
        MouldFloor y = Floors.withShades(0);
        Floors.family(y, "1 1 2x1");
        y.mount(0);
        y.load(0, 0, 100);
        y.pause(60);
        y.order(2, 0, 1, 0);
        for (int left = 5; left > 0; left--) {
            int want = left;
            CHECKS.due("shots", want, () -> y.shots(0));
            y.run(0, 1);
        }
        for (int more = 0; more < 4; more++) {
            CHECKS.due("0 with an open crate too", 0, () -> y.shots(0));
            y.run(0, 1);
        }
        CHECKS.due("0 with pieces for another crate", 0, () -> y.shots(0));
    }

    private static void letter() {
        MouldFloor x = Floors.ready();
        x.order(0, 0, 1, 0);
        x.order(0, 1, 1, 0);
        x.order(0, 0, 1, 9);
        x.order(0, 1, 1, 0);
        CHECKS.due("letter", 'o', () -> x.letter(0));
        x.run(0, 2);
        x.pause(480);
        CHECKS.due("letter of a delivered one", 'd', () -> x.letter(0));
        CHECKS.due("letter of a late one", 'l', () -> x.letter(1));
        CHECKS.due("letter of an open one", 'o', () -> x.letter(2));
        x.callOff(1);
        CHECKS.due("letter of a late one that is called off", 'c', () -> x.letter(1));
        x.run(1, 2);
        x.pause(480);
        CHECKS.due("letter of a late one that is delivered", 'd', () -> x.letter(3));
        CHECKS.fails("letter of no order", Checks.INDEX, x, () -> x.letter(4));
        CHECKS.fails("letter of -1", Checks.INDEX, x, () -> x.letter(-1));
    }

    private static void due() {
        MouldFloor x = Floors.ready();
        x.order(0, 0, 1, 0);
        x.order(0, 1, 1, 5);
        x.order(0, 0, 1, 3);
        x.order(0, 0, 1, 99);
        CHECKS.fails("due of -1", Checks.ARGUMENT, x, () -> x.due(-1));
        CHECKS.fails("due of the least", Checks.ARGUMENT, x, () -> x.due(Integer.MIN_VALUE));
        CHECKS.due("due 0", 1, () -> x.due(0));
        CHECKS.due("due 2", 1, () -> x.due(2));
        CHECKS.due("due 3", 5, () -> x.due(3));
        CHECKS.due("due 5", 7, () -> x.due(5));
        CHECKS.due("due 99", 15, () -> x.due(99));
        CHECKS.due("due of the most", 15, () -> x.due(Integer.MAX_VALUE));
        x.callOff(1);
        CHECKS.due("without the one that is called off", 5, () -> x.due(5));
        x.run(0, 2);
        x.pause(480);
        CHECKS.due("without the delivered one", 4, () -> x.due(5));
    }

    private static void lateness() {
        MouldFloor x = Floors.ready();
        CHECKS.fails("lateness of none", Checks.ARITHMETIC, x, () -> x.lateness());
        x.order(0, 0, 1, 0);
        x.order(0, 0, 1, 0);
        x.order(0, 0, 1, 0);
        x.order(0, 1, 1, 0);
        x.pause(480);
        x.pause(480);
        CHECKS.fails("lateness with none delivered", Checks.ARITHMETIC, x, () -> x.lateness());
        x.run(0, 2);
        x.pause(480);
        CHECKS.due("lateness of one", 2.0, () -> x.lateness());
        x.run(0, 4);
        x.pause(480);
        CHECKS.due("lateness of three", 8.0 / 3.0, () -> x.lateness());
        x.callOff(3);
        CHECKS.due("without those that are called off", 8.0 / 3.0, () -> x.lateness());
    }
}
