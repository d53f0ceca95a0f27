import java.util.ArrayList;
import java.util.List;

/** Colours in order: promises 18 to 20, and the paragraph "Colours in order" of "Terms". */
public final class ColoursTest {
    private static final Rows ROWS = new Rows("ColoursTest");

    /** The machine can run in the colour k by loading the dryer 0. */
    private static final String MACHINE = """
        part(1) = 0
        family("1 1 0x1") = 0
        mount(0) = 0
        set(1, 0) = 60
        """;

    public static void main(String[] args) {
        emptySet();
        oneColour();
        twoColours();
        allColours();
        ties();
        noSet();
        noPlace();
        changedColours();
        allSetsOfAllShades();
        ROWS.end();
    }

    private static String colours(int... shades) {
        StringBuilder rows = new StringBuilder();
        for (int colour = 0; colour < shades.length; colour++) {
            rows.append("colour(").append(shades[colour]).append(") = ").append(colour).append('\n');
        }
        return rows.toString();
    }

    private static String machineIn(int colour) {
        return MACHINE + "load(0, " + colour + ", 1) = 1\nrun(" + colour + ", 1) = 0\naccount(7) = " + colour + "\n";
    }

    /** The sum by both ways, the colours in their order, and no place before or behind them. */
    private static String best(int set, int sum, int... order) {
        StringBuilder rows = new StringBuilder();
        rows.append("best(").append(set).append(") = ").append(sum).append('\n');
        rows.append("bestAgain(").append(set).append(") = ").append(sum).append('\n');
        for (int place = 0; place < order.length; place++) {
            rows.append("bestColour(").append(set).append(", ").append(place).append(") = ").append(order[place])
                .append('\n');
        }
        rows.append("bestColour(").append(set).append(", ").append(order.length).append(") throws Element\n");
        rows.append("bestColour(").append(set).append(", -1) throws Element\n");
        return rows.toString();
    }

    private static void emptySet() {
        ROWS.test("The best order of no colours, of a floor without colours", best(0, 0));
        ROWS.test("The best order of no colours, of a machine without a colour", colours(5, 2), best(0, 0));
        ROWS.test("The best order of no colours, of a machine with a colour", colours(5, 2), machineIn(0), best(0, 0));
    }

    private static void oneColour() {
        ROWS.test("The best order of one colour, of a machine without a colour", colours(5, 2), best(1, 0, 0),
            best(2, 0, 1));
        ROWS.test("The best order of one colour: that of the machine", colours(5, 2), machineIn(0), best(1, 0, 0));
        ROWS.test("The best order of one colour: not that of the machine", colours(5, 2), machineIn(0), best(2, 7, 1));
        ROWS.test("The best order of the sixth colour", colours(9, 9, 9, 9, 9, 0), machineIn(4), best(32, 19, 5));
    }

    private static void twoColours() {
        ROWS.test("The best order of two colours begins with the lighter one", colours(5, 2), best(3, 1, 1, 0));
        ROWS.test("The sum counts from the colour of the machine to the first one", colours(5, 2, 4), machineIn(0),
            best(6, 8, 1, 2), best(3, 7, 0, 1), best(5, 3, 0, 2));
        ROWS.test("From the colour of the machine to itself is 0", colours(2, 0, 9), machineIn(0), best(3, 5, 0, 1),
            best(5, 1, 0, 2), best(7, 6, 0, 1, 2));
    }

    private static void allColours() {
        ROWS.test("The best order of six colours, of a machine without a colour", colours(3, 0, 9, 6, 1, 8),
            best(63, 5, 1, 4, 0, 3, 5, 2), best(0b101101, 3, 0, 3, 5, 2));
        ROWS.test("The best order of six colours, of a machine with a colour", colours(3, 0, 9, 6, 1, 8), machineIn(3),
            best(63, 17, 3, 0, 1, 4, 5, 2), best(0b010111, 16, 0, 1, 4, 2));
        ROWS.test("The largest sum: from the darkest to the lightest by the factor 5", colours(0, 9), machineIn(1),
            "set(2, 5) = 2\n", best(1, 46, 0), best(3, 46, 1, 0));
    }

    private static void ties() {
        ROWS.test("Of several that are best the one that comes first: all of the same shade", colours(4, 4, 4, 4, 4, 4),
            best(63, 5, 0, 1, 2, 3, 4, 5), best(0b101010, 2, 1, 3, 5));
        ROWS.test("Of several that are best the one that comes first: by the factor 0", colours(9, 0, 5, 0, 9, 5),
            "set(2, 0) = 2\n", best(63, 5, 0, 1, 2, 3, 4, 5));
        ROWS.test("Of several that are best the one that comes first: the lower of two of a shade",
            colours(9, 0, 5, 0, 9, 5), best(63, 5, 1, 3, 2, 5, 0, 4), best(0b110001, 2, 5, 0, 4));
        ROWS.test("Of several that are best the one that comes first: behind the colour of the machine",
            colours(9, 0, 5, 0, 9, 5), machineIn(4), "set(2, 1) = 2\n", best(63, 14, 4, 0, 1, 3, 2, 5));
        ROWS.test("The sum is looked at ahead of what comes first", colours(5, 2, 4), best(7, 2, 1, 2, 0));
    }

    private static void noSet() {
        ROWS.test("Promises 18 to 20: the set is negative", colours(5, 2), """
            best(-1) throws Argument
            bestAgain(-1) throws Argument
            bestColour(-1, 0) throws Argument
            best(min) throws Argument
            bestAgain(min) throws Argument
            bestColour(min, 0) throws Argument
            """);
        ROWS.test("Promises 18 to 20: a negative set, of six colours", colours(0, 1, 2, 3, 4, 5), """
            best(-1) throws Argument
            bestAgain(-1) throws Argument
            bestColour(-1, 0) throws Argument
            best(-64) throws Argument
            bestAgain(-64) throws Argument
            bestColour(-64, 0) throws Argument
            best(min) throws Argument
            bestAgain(min) throws Argument
            bestColour(min, 0) throws Argument
            """);
        ROWS.test("Promises 18 to 20: the set has what is no colour", colours(5, 2), """
            best(3) = 1
            best(4) throws Argument
            bestAgain(4) throws Argument
            bestColour(4, 0) throws Argument
            best(7) throws Argument
            bestAgain(7) throws Argument
            bestColour(7, 0) throws Argument
            best(32) throws Argument
            bestAgain(33) throws Argument
            bestColour(35, 0) throws Argument
            best(max) throws Argument
            bestAgain(max) throws Argument
            bestColour(max, 0) throws Argument
            best(1073741824) throws Argument
            bestAgain(1073741824) throws Argument
            bestColour(1073741825, 0) throws Argument
            """);
        ROWS.test("Promises 18 to 20: the set has what is no colour, of six colours", colours(0, 1, 2, 3, 4, 5), """
            best(63) = 5
            best(64) throws Argument
            bestAgain(64) throws Argument
            bestColour(64, 0) throws Argument
            best(127) throws Argument
            bestAgain(127) throws Argument
            bestColour(127, 0) throws Argument
            best(max) throws Argument
            """);
        ROWS.test("Promises 18 to 20: of a floor without colours", """
            best(0) = 0
            best(1) throws Argument
            bestAgain(1) throws Argument
            bestColour(1, 0) throws Argument
            """);
    }

    private static void noPlace() {
        ROWS.test("Promise 20: there is no such place", colours(5, 2), """
            bestColour(3, -1) throws Element
            bestColour(3, 0) = 1
            bestColour(3, 1) = 0
            bestColour(3, 2) throws Element
            bestColour(2, 1) throws Element
            bestColour(0, 0) throws Element
            bestColour(3, min) throws Element
            bestColour(3, max) throws Element
            """);
        ROWS.test("Promise 20: the set is looked at ahead of the place", colours(5, 2), """
            bestColour(4, -1) throws Argument
            bestColour(4, 1) throws Argument
            bestColour(-1, 99) throws Argument
            """);
    }

    private static void changedColours() {
        ROWS.test("The best order follows the colours that are undone and added", colours(9, 0, 5), best(7, 2, 1, 2, 0), """
            undo() = 2
            best(7) throws Argument
            """, best(3, 1, 1, 0), """
            undo() = 1
            colour(9) = 1
            colour(0) = 2
            """, best(7, 2, 2, 0, 1));
        ROWS.test("The best order follows the purge factor", colours(1, 0), machineIn(0), best(2, 3, 1), """
            set(2, 5) = 2
            """, best(2, 6, 1), """
            set(2, 0) = 5
            """, best(2, 1, 1));
        ROWS.test("bestAgain and bestColour need no earlier call of best", colours(9, 0), """
            bestAgain(3) = 1
            bestColour(3, 0) = 1
            """);
    }

    /** All sets of several floors, against all orders as they come. */
    private static void allSetsOfAllShades() {
        int[][] floors = {{0, 9, 3, 3, 7, 1}, {9, 8, 7, 6, 5, 4}, {4, 5, 6, 7, 8, 9}, {9, 0, 9, 0, 9, 0}, {2, 2, 1, 1, 0, 0},
            {5, 0, 5, 9, 0, 9}};
        for (int machine = -1; machine < 6; machine += 2) {
            for (int[] shades : floors) {
                StringBuilder rows = new StringBuilder();
                for (int set = 0; set < 64; set += 1 + set % 5) {
                    rows.append(bestByOrders(shades, machine, set));
                }
                ROWS.test("The best order of " + shades[0] + shades[1] + " and others behind the colour " + machine,
                    colours(shades), machine < 0 ? "" : machineIn(machine), rows.toString());
            }
        }
    }

    private static String bestByOrders(int[] shades, int machine, int set) {
        List<int[]> orders = new ArrayList<>();
        addOrders(new int[Integer.bitCount(set)], 0, set, orders);
        int[] first = orders.get(0);
        for (int[] order : orders) {
            first = sumOf(shades, machine, order) < sumOf(shades, machine, first) ? order : first;
        }
        return best(set, sumOf(shades, machine, first), first);
    }

    private static void addOrders(int[] begun, int place, int left, List<int[]> orders) {
        if (left == 0) {
            orders.add(begun.clone());
        }
        for (int colour = 0; colour < 6; colour++) {
            if ((left >> colour & 1) == 1) {
                begun[place] = colour;
                addOrders(begun, place + 1, left & ~(1 << colour), orders);
            }
        }
    }

    private static int sumOf(int[] shades, int machine, int[] order) {
        int sum = 0;
        int last = machine;
        for (int colour : order) {
            if (last >= 0 && last != colour) {
                sum += 1 + (shades[last] > shades[colour] ? (shades[last] - shades[colour]) * 2 : 0);
            }
            last = colour;
        }
        return sum;
    }
}
