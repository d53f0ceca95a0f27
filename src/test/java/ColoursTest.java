/** Promises 16 to 20: purge, minutes, best, bestAgain and bestColour. */
public final class ColoursTest {
    private static final Checks CHECKS = new Checks("ColoursTest");

    public static void main(String[] args) {
        purge();
        minutes();
        best();
        bestOfMany();
        ties();
        eachWithoutTheOthers();
        CHECKS.end();
    }

    private static void purge() {
        MouldFloor x = Floors.withShades(9, 1, 4, 4);
        CHECKS.due("purge to lighter", 17, () -> x.purge(0, 1));
        CHECKS.due("purge to darker", 1, () -> x.purge(1, 0));
        CHECKS.due("purge to the same shade", 1, () -> x.purge(2, 3));
        CHECKS.due("purge to itself", 0, () -> x.purge(2, 2));
        x.set(2, 0);
        CHECKS.due("purge by the factor 0", 1, () -> x.purge(0, 1));
        x.set(2, 5);
        CHECKS.due("purge by the factor 5", 26, () -> x.purge(0, 2));
        CHECKS.fails("purge from no colour", Checks.INDEX, x, () -> x.purge(4, 0));
        CHECKS.fails("purge to no colour", Checks.INDEX, x, () -> x.purge(0, 4));
        CHECKS.fails("purge from -1", Checks.INDEX, x, () -> x.purge(-1, 0));
        CHECKS.fails("purge to -1", Checks.INDEX, x, () -> x.purge(0, -1));
        CHECKS.fails("purge from no colour to itself", Checks.INDEX, x, () -> x.purge(5, 5));
    }

    private static void minutes() {
        MouldFloor x = Floors.withFamily();
        CHECKS.fails("minutes of no colour", Checks.INDEX, x, () -> x.minutes(2, 0));
        CHECKS.fails("minutes of -1", Checks.INDEX, x, () -> x.minutes(-1, 1));
        CHECKS.fails("minutes of 0 shots", Checks.ARGUMENT, x, () -> x.minutes(0, 0));
        CHECKS.fails("minutes of 201 shots", Checks.ARGUMENT, x, () -> x.minutes(0, 201));
        CHECKS.fails("minutes with none mounted", Checks.STATE, x, () -> x.minutes(0, 1));
        x.mount(0);
        CHECKS.due("minutes, whatever the dryers have", 5, () -> x.minutes(0, 1));
        CHECKS.due("minutes of the most", 1000, () -> x.minutes(1, 200));
        x.load(0, 1, 1000);
        x.pause(60);
        x.run(1, 1);
        CHECKS.due("minutes with the purge", (7 + 3) * 5, () -> x.minutes(0, 3));
        CHECKS.due("minutes in the same colour", 15, () -> x.minutes(1, 3));
    }

    private static void sums(MouldFloor x, int colours, int sum) {
        CHECKS.due("best " + colours, sum, () -> x.best(colours));
        CHECKS.due("bestAgain " + colours, sum, () -> x.bestAgain(colours));
    }

    private static void colours(MouldFloor x, int set, int... colours) {
        for (int index = 0; index < colours.length; index++) {
            int place = index;
            CHECKS.due("bestColour " + set + ", " + index, colours[index], () -> x.bestColour(set, place));
        }
        CHECKS.fails("bestColour behind the last", Checks.ELEMENT, x, () -> x.bestColour(set, colours.length));
        CHECKS.fails("bestColour -1", Checks.ELEMENT, x, () -> x.bestColour(set, -1));
    }

    private static void noSet(MouldFloor x, int set) {
        CHECKS.fails("best of no set", Checks.ARGUMENT, x, () -> x.best(set));
        CHECKS.fails("bestAgain of no set", Checks.ARGUMENT, x, () -> x.bestAgain(set));
        CHECKS.fails("bestColour of no set", Checks.ARGUMENT, x, () -> x.bestColour(set, 0));
        CHECKS.fails("bestColour of no set and place", Checks.ARGUMENT, x, () -> x.bestColour(set, -1));
    }

    private static void best() {
        MouldFloor none = new MouldFloor();
        sums(none, 0, 0);
        colours(none, 0);
        noSet(none, 1);
        noSet(none, -1);
        MouldFloor x = Floors.withShades(5, 2);
        noSet(x, 4);
        noSet(x, 5);
        noSet(x, 64);
        noSet(x, Integer.MIN_VALUE);
        noSet(x, Integer.MAX_VALUE);
        sums(x, 0, 0);
        sums(x, 1, 0);
        sums(x, 3, 1);
        colours(x, 0);
        colours(x, 2, 1);
        colours(x, 3, 1, 0);
        Floors.family(x, "1 1 0x1");
        x.mount(0);
        x.set(1, 0);
        x.load(0, 0, 100);
        x.run(0, 1);
        sums(x, 0, 0);
        sums(x, 1, 0);
        sums(x, 2, 7);
        sums(x, 3, 7);
        colours(x, 3, 0, 1);
        x.set(2, 0);
        sums(x, 3, 1);
        colours(x, 3, 0, 1);
    }

    private static void bestOfMany() {
        MouldFloor x = Floors.withShades(3, 0, 9, 6, 1, 8);
        sums(x, 63, 5);
        colours(x, 63, 1, 4, 0, 3, 5, 2);
        sums(x, 0b101101, 3);
        colours(x, 0b101101, 0, 3, 5, 2);
        Floors.family(x, "1 1 0x1");
        x.mount(0);
        x.set(1, 0);
        x.load(0, 3, 100);
        x.run(3, 1);
        sums(x, 63, 5 + 2 * 6);
        colours(x, 63, 3, 0, 1, 4, 5, 2);
        sums(x, 0b010111, 4 + 2 * 6);
        colours(x, 0b010111, 0, 1, 4, 2);
    }

    /** Of several that are best it is the one that is first colour by colour. */
    private static void ties() {
        MouldFloor x = Floors.withShades(4, 4, 4, 4);
        sums(x, 15, 3);
        colours(x, 15, 0, 1, 2, 3);
        colours(x, 10, 1, 3);
        MouldFloor y = Floors.withShades(9, 0, 5, 0, 9, 5);
        y.set(2, 0);
        sums(y, 63, 5);
        colours(y, 63, 0, 1, 2, 3, 4, 5);
        y.set(2, 1);
        sums(y, 63, 5);
        colours(y, 63, 1, 3, 2, 5, 0, 4);
        Floors.family(y, "1 1 0x1");
        y.mount(0);
        y.set(1, 0);
        y.load(0, 4, 100);
        y.run(4, 1);
        sums(y, 63, 5 + 9);
        colours(y, 63, 4, 0, 1, 3, 2, 5);
    }

    /** No answer needs an earlier one, and none is an earlier one. */
    private static void eachWithoutTheOthers() {
        MouldFloor x = Floors.withShades(9, 0);
        x.set(2, 5);
        CHECKS.due("bestAgain alone", 1, () -> x.bestAgain(3));
        MouldFloor y = Floors.withShades(9, 0);
        CHECKS.due("bestColour alone", 1, () -> y.bestColour(3, 0));
        MouldFloor z = Floors.withShades(9, 0, 5);
        CHECKS.due("best of three", 2, () -> z.best(7));
        z.undo();
        z.undo();
        z.undo();
        z.undo();
        z.undo();
        z.colour(1);
        z.colour(0);
        CHECKS.due("bestColour by other shades", 2, () -> z.bestColour(7, 0));
        CHECKS.due("bestColour by other shades", 1, () -> z.bestColour(7, 1));
        z.undo();
        CHECKS.fails("bestColour without the colour", Checks.ARGUMENT, z, () -> z.bestColour(7, 0));
        CHECKS.due("bestColour of the others", 1, () -> z.bestColour(3, 0));
    }
}
