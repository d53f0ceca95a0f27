/** A floor with as many colours, parts, families and orders as there can be: each place of them has numbers of its own. */
public final class FullTest {
    private static final Rows ROWS = new Rows("FullTest");
    private static final int COLOURS = 6;
    private static final int PARTS = 8;
    private static final int ORDERS = 10;
    /** The first three make every part, each in one of them, and are run; the others are there to be asked. */
    private static final int[][] FAMILIES = {{0, 1, 2}, {3, 4, 5}, {6, 7}, {7}, {7, 0}, {5, 6, 7}};
    private static final int RUN_FAMILIES = 3;
    private static final String FLOOR = floor();
    private static final String RUNS = runs();
    private static final String TAKEN = orders();

    public static void main(String[] args) {
        catalogue();
        crates();
        orders(false);
        orders(true);
        lateness();
        ROWS.end();
    }

    private static int sizeOf(int part) {
        return 3 + part;
    }

    private static int piecesOf(int part) {
        return 1 + part;
    }

    private static int shotsOf(int family, int colour) {
        return 2 + family + colour;
    }

    /** All of one part and colour, without scrap. */
    private static int madeOf(int part, int colour) {
        return piecesOf(part) * shotsOf(part / 3, colour);
    }

    private static String row(String name, int answer, int... arguments) {
        StringBuilder told = new StringBuilder(name).append('(');
        for (int place = 0; place < arguments.length; place++) {
            told.append(place > 0 ? ", " : "").append(arguments[place]);
        }
        return told.append(") = ").append(answer).append('\n').toString();
    }

    private static String floor() {
        StringBuilder rows = new StringBuilder();
        for (int colour = 0; colour < COLOURS; colour++) {
            rows.append("colour(").append(colour).append(")\n");
        }
        for (int part = 0; part < PARTS; part++) {
            rows.append("part(").append(sizeOf(part)).append(")\n");
        }
        for (int[] parts : FAMILIES) {
            rows.append("family(\"1 1");
            for (int part : parts) {
                rows.append(' ').append(part).append('x').append(piecesOf(part));
            }
            rows.append("\")\n");
        }
        return rows.append("set(1, 0)\nset(2, 0)\nset(3, 0)\n").toString();
    }

    /** Every family in every colour, so that each run but the first has a shot to purge. */
    private static String runs() {
        StringBuilder rows = new StringBuilder();
        for (int family = 0; family < RUN_FAMILIES; family++) {
            rows.append("mount(").append(family).append(")\n");
            for (int colour = 0; colour < COLOURS; colour++) {
                int shots = shotsOf(family, colour);
                rows.append("load(0, ").append(colour).append(", ").append(shots + 1).append(")\n");
                rows.append("run(").append(colour).append(", ").append(shots).append(")\n");
                rows.append(family + colour == 0 ? "empty(0)\n" : "");
            }
        }
        return rows.toString();
    }

    private static int partOf(int order) {
        return order % PARTS;
    }

    private static int colourOf(int order) {
        return COLOURS - 1 - order % COLOURS;
    }

    private static boolean isShort(int order) {
        return order % 3 == 2;
    }

    private static int closedFor(int order) {
        return madeOf(partOf(order), colourOf(order)) / sizeOf(partOf(order));
    }

    /** Each order wants the closed crates of a part and colour that no other one wants; some want one more. */
    private static String orders() {
        StringBuilder rows = new StringBuilder();
        for (int order = 0; order < ORDERS; order++) {
            int crates = closedFor(order) + (isShort(order) ? 1 : 0);
            rows.append("order(").append(partOf(order)).append(", ").append(colourOf(order)).append(", ").append(crates)
                .append(", 0)\n");
        }
        return rows.toString();
    }

    private static void catalogue() {
        StringBuilder rows = new StringBuilder();
        int[] sets = new int[PARTS];
        for (int family = 0; family < FAMILIES.length; family++) {
            int[] pieces = new int[PARTS];
            int sum = 0;
            for (int part : FAMILIES[family]) {
                pieces[part] = piecesOf(part);
                sets[part] |= 1 << family;
                sum += piecesOf(part);
            }
            for (int part = 0; part < PARTS; part++) {
                rows.append(row("pieces", pieces[part], family, part));
            }
            rows.append(row("familyOf", FAMILIES[family].length, family, 2)).append(row("familyOf", sum, family, 3));
        }
        for (int part = 0; part < PARTS; part++) {
            rows.append(row("families", sets[part], part));
        }
        ROWS.test("Six families of eight parts", FLOOR, rows.toString());
    }

    private static void crates() {
        for (int part = 0; part < PARTS; part++) {
            StringBuilder rows = new StringBuilder();
            int crates = 0;
            int rest = 0;
            for (int colour = 0; colour < COLOURS; colour++) {
                int closed = madeOf(part, colour) / sizeOf(part);
                int open = madeOf(part, colour) % sizeOf(part);
                rows.append(row("stock", closed, part, colour, 0)).append(row("stock", open, part, colour, 1));
                rows.append(row("stock", 0, part, colour, 2));
                crates += closed * sizeOf(part);
                rest += open;
            }
            int scrap = piecesOf(part) * (part < 3 ? COLOURS - 1 : COLOURS);
            rows.append(row("made", crates + rest + scrap, part, 0)).append(row("made", crates, part, 1));
            rows.append(row("made", rest, part, 2)).append(row("made", scrap, part, 3));
            ROWS.test("Eight parts in six colours: the part " + part, FLOOR, RUNS, rows.toString());
        }
    }

    /** The runs take 116 minutes of the week. */
    private static void orders(boolean isBehindEnd) {
        StringBuilder rows = new StringBuilder(isBehindEnd ? "pause(364) = 1\n" : "");
        int open = 0;
        for (int order = 0; order < ORDERS; order++) {
            boolean isDelivered = isBehindEnd && !isShort(order);
            int closed = closedFor(order);
            open |= isDelivered ? 0 : 1 << order;
            rows.append(row("orderOf", partOf(order), order, 0)).append(row("orderOf", colourOf(order), order, 1));
            rows.append(row("orderOf", closed + (isShort(order) ? 1 : 0), order, 2));
            rows.append(row("orderOf", isDelivered ? 1 : 0, order, 4));
            rows.append(row("orderOf", isBehindEnd && isShort(order) ? 1 : 0, order, 5));
            rows.append("letter(").append(order).append(") = ");
            rows.append(isDelivered ? "'d'" : isBehindEnd ? "'l'" : "'o'").append('\n');
            rows.append(row("stock", isDelivered ? 0 : closed, partOf(order), colourOf(order), 0));
            rows.append(row("stock", isDelivered ? closed : 0, partOf(order), colourOf(order), 2));
        }
        rows.append(row("due", open, 0)).append(row("account", Integer.bitCount(open), 4));
        rows.append(isBehindEnd ? "lateness() = 0d\n" : "lateness() throws Arithmetic\n");
        ROWS.test("Ten orders " + (isBehindEnd ? "behind" : "ahead of") + " the end of the week", FLOOR, RUNS, TAKEN,
            rows.toString());
    }

    /** A crate a week, so that each order waits one week longer than the one before. */
    private static void lateness() {
        StringBuilder rows = new StringBuilder("colour(0)\npart(1)\nfamily(\"1 1 0x1\")\nset(0, 60)\nset(1, 0)\n"
            + "mount(0)\nload(0, 0, 10)\npause(50) = 1\n");
        for (int order = 0; order < ORDERS; order++) {
            rows.append("order(0, 0, 1, 0)\n");
        }
        int sum = 0;
        for (int order = 0; order < ORDERS; order++) {
            rows.append("run(0, 1)\npause(59)\n");
            sum += order;
            rows.append("lateness() = ").append(sum).append("d/").append(order + 1).append("d\n");
        }
        rows.append("due(0) = 0\naccount(4) = 0\n");
        ROWS.test("The mean lateness of one order to ten", rows.toString());
    }
}
