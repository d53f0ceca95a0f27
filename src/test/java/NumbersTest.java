/** Promises 21 to 26, 32 and 34: familyOf, pieces, families, dryer, stock, made, scrap and account. */
public final class NumbersTest {
    private static final Checks CHECKS = new Checks("NumbersTest");

    public static void main(String[] args) {
        familyOf();
        pieces();
        families();
        dryer();
        stock();
        made();
        scrap();
        account();
        CHECKS.end();
    }

    private static void familyOf() {
        MouldFloor x = Floors.withFamily();
        Floors.family(x, "99 999 2x9 0x8 1x7");
        x.mount(1);
        int[][] want = {{5, 10, 2, 3, 0}, {99, 999, 3, 24, 1}};
        for (int family = 0; family < 2; family++) {
            for (int what = 0; what < 5; what++) {
                int number = family;
                int place = what;
                CHECKS.due("familyOf " + family + ", " + what, want[family][what], () -> x.familyOf(number, place));
            }
        }
        CHECKS.fails("familyOf no family", Checks.INDEX, x, () -> x.familyOf(2, 5));
        CHECKS.fails("familyOf -1", Checks.INDEX, x, () -> x.familyOf(-1, 0));
        CHECKS.fails("familyOf what 5", Checks.ARGUMENT, x, () -> x.familyOf(0, 5));
        CHECKS.fails("familyOf what -1", Checks.ARGUMENT, x, () -> x.familyOf(0, -1));
    }

    private static void pieces() {
        MouldFloor x = Floors.withFamily();
        Floors.family(x, "1 1 2x9 0x4");
        CHECKS.due("pieces", 2, () -> x.pieces(0, 0));
        CHECKS.due("pieces", 1, () -> x.pieces(0, 1));
        CHECKS.due("pieces of none of its parts", 0, () -> x.pieces(0, 2));
        CHECKS.due("pieces", 4, () -> x.pieces(1, 0));
        CHECKS.due("pieces of none of its parts", 0, () -> x.pieces(1, 1));
        CHECKS.due("pieces", 9, () -> x.pieces(1, 2));
        CHECKS.fails("pieces of no family", Checks.INDEX, x, () -> x.pieces(2, 0));
        CHECKS.fails("pieces of no part", Checks.INDEX, x, () -> x.pieces(0, 3));
        CHECKS.fails("pieces of the family -1", Checks.INDEX, x, () -> x.pieces(-1, 0));
        CHECKS.fails("pieces of the part -1", Checks.INDEX, x, () -> x.pieces(1, -1));
    }

    private static void families() {
        MouldFloor x = Floors.withFamily();
        CHECKS.due("families of the part 2", 0, () -> x.families(2));
        Floors.family(x, "1 1 2x9 0x4");
        Floors.family(x, "1 1 2x9");
        CHECKS.due("families of the part 0", 3, () -> x.families(0));
        CHECKS.due("families of the part 1", 1, () -> x.families(1));
        CHECKS.due("families of the part 2", 6, () -> x.families(2));
        CHECKS.fails("families of no part", Checks.INDEX, x, () -> x.families(3));
        CHECKS.fails("families of -1", Checks.INDEX, x, () -> x.families(-1));
    }

    private static void dryer() {
        MouldFloor x = Floors.withShades(1, 2);
        x.load(1, 1, 77);
        x.pause(25);
        int[] want = {1, 77, 25, 35};
        for (int what = 0; what < 4; what++) {
            int place = what;
            CHECKS.due("dryer " + what, want[what], () -> x.dryer(1, place));
            CHECKS.due("an empty dryer " + what, what == 0 ? -1 : 0, () -> x.dryer(2, place));
        }
        x.set(1, 999);
        CHECKS.due("the drying time as it is set now", 974, () -> x.dryer(1, 3));
        x.set(1, 25);
        CHECKS.due("dry", 0, () -> x.dryer(1, 3));
        x.set(1, 5);
        CHECKS.due("more than dry", 0, () -> x.dryer(1, 3));
        x.pause(999);
        CHECKS.due("the minutes go on", 1024, () -> x.dryer(1, 2));
        CHECKS.fails("no dryer", Checks.INDEX, x, () -> x.dryer(3, 4));
        CHECKS.fails("the dryer -1", Checks.INDEX, x, () -> x.dryer(-1, 0));
        CHECKS.fails("dryer what 4", Checks.ARGUMENT, x, () -> x.dryer(0, 4));
        CHECKS.fails("dryer what -1", Checks.ARGUMENT, x, () -> x.dryer(0, -1));
    }

    /** Two colours, two parts, crates, a rest, a purge and a delivery. */
    private static MouldFloor busy() {
        MouldFloor x = Floors.ready();
        x.order(0, 0, 1, 0);
        x.run(1, 7);
        x.run(0, 5);
        x.pause(480);
        return x;
    }

    private static void stock() {
        MouldFloor x = busy();
        int[][] want = {{1, 2, 1}, {3, 2, 0}, {1, 2, 0}, {2, 1, 0}, {0, 0, 0}, {0, 0, 0}};
        for (int place = 0; place < want.length; place++) {
            int part = place / 2;
            int colour = place % 2;
            for (int what = 0; what < 3; what++) {
                int number = what;
                CHECKS.due("stock " + part + ", " + colour + ", " + what, want[place][what],
                    () -> x.stock(part, colour, number));
            }
        }
        CHECKS.fails("stock of no part", Checks.INDEX, x, () -> x.stock(3, 0, 3));
        CHECKS.fails("stock of no colour", Checks.INDEX, x, () -> x.stock(0, 2, 3));
        CHECKS.fails("stock of the part -1", Checks.INDEX, x, () -> x.stock(-1, 0, 0));
        CHECKS.fails("stock of the colour -1", Checks.INDEX, x, () -> x.stock(0, -1, 0));
        CHECKS.fails("stock what 3", Checks.ARGUMENT, x, () -> x.stock(0, 0, 3));
        CHECKS.fails("stock what -1", Checks.ARGUMENT, x, () -> x.stock(0, 0, -1));
    }

    private static void made() {
        MouldFloor x = busy();
        int[][] want = {{14 + 10 + 14, 5 * 4, 4, 14}, {7 + 5 + 7, 3 * 3, 3, 7}, {0, 0, 0, 0}};
        for (int part = 0; part < want.length; part++) {
            for (int what = 0; what < 4; what++) {
                int number = part;
                int place = what;
                CHECKS.due("made " + part + ", " + what, want[part][what], () -> x.made(number, place));
            }
        }
        CHECKS.fails("made of no part", Checks.INDEX, x, () -> x.made(3, 4));
        CHECKS.fails("made of -1", Checks.INDEX, x, () -> x.made(-1, 0));
        CHECKS.fails("made what 4", Checks.ARGUMENT, x, () -> x.made(0, 4));
        CHECKS.fails("made what -1", Checks.ARGUMENT, x, () -> x.made(0, -1));
    }

    private static void scrap() {
        MouldFloor x = Floors.ready();
        CHECKS.fails("scrap of none", Checks.ARITHMETIC, x, () -> x.scrap());
        x.run(1, 7);
        CHECKS.due("no scrap", 0.0f, () -> x.scrap());
        MouldFloor y = busy();
        CHECKS.due("scrap", 21.0f / 57.0f, () -> y.scrap());
        MouldFloor z = Floors.ready();
        Floors.family(z, "1 1 0x1");
        z.mount(1);
        z.run(0, 1);
        CHECKS.due("no scrap with one piece", 0.0f, () -> z.scrap());
        z.run(1, 2);
        CHECKS.due("scrap of one piece", 1.0f / 4.0f, () -> z.scrap());
        z.run(0, 1);
        CHECKS.due("scrap of two purges", 8.0f / 12.0f, () -> z.scrap());
    }

    private static void account() {
        MouldFloor x = busy();
        Floors.family(x, "1 1 2x9");
        x.order(1, 1, 3, 8);
        x.order(1, 0, 2, 9);
        x.callOff(2);
        x.set(0, 100);
        x.set(1, 70);
        x.set(2, 3);
        x.set(3, 4);
        x.append('m');
        x.append('1');
        int[] want = {2, 3, 2, 3, 1, 70 + 19 * 5 + 480, 1, 0, 0, 100000 - 190, 190, 19, 7, 8, 2, 100, 70, 3, 4};
        for (int what = 0; what < want.length; what++) {
            int place = what;
            CHECKS.due("account " + what, want[what], () -> x.account(place));
        }
        CHECKS.fails("account 19", Checks.ARGUMENT, x, () -> x.account(19));
        CHECKS.fails("account -1", Checks.ARGUMENT, x, () -> x.account(-1));
        x.program();
        CHECKS.due("the family that is mounted", 1, () -> x.account(8));
        x.run(1, 2);
        CHECKS.due("the colour of the machine", 1, () -> x.account(7));
    }
}
