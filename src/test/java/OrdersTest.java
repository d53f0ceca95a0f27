/** Orders: promises 13, 14, 27 to 30 and 33, the paragraph "Orders", and what "Time" says of them. */
public final class OrdersTest {
    private static final Rows ROWS = new Rows("OrdersTest");

    /** The shades 2 and 5; crates of 4, 3 and 5; the family 0 takes 5 minutes and 10 grams a shot. */
    private static final String FLOOR = """
        colour(2) = 0
        colour(5) = 1
        part(4) = 0
        part(3) = 1
        part(5) = 2
        family("5 10 0x2 1x1") = 0
        """;
    /** The family is mounted, and granulate is dry at once. */
    private static final String READY = FLOOR + """
        set(1, 0) = 60
        mount(0) = 0
        load(0, 0, 50000) = 50000
        load(1, 1, 50000) = 50000
        """;
    private static final String WEEK = "pause(480) = 1\n";

    public static void main(String[] args) {
        order();
        orderBounds();
        orderReasons();
        callOff();
        open();
        enoughCrates();
        whichCrates();
        whichWeeks();
        ascending();
        late();
        shots();
        shotsOfCrates();
        shotsRefused();
        letter();
        due();
        lateness();
        asked();
        ROWS.end();
    }

    private static void order() {
        ROWS.test("At most 10 orders are kept, numbered from 0", FLOOR, """
            order(0, 0, 1, 0) = 0
            order(1, 0, 2, 3) = 1
            order(2, 1, 3, 2) = 2
            order(0, 0, 1, 0) = 3
            order(0, 0, 1, 0) = 4
            order(0, 0, 1, 0) = 5
            order(0, 0, 1, 0) = 6
            order(0, 0, 1, 0) = 7
            order(0, 1, 5, 1) = 8
            account(3) = 9
            order(2, 1, 20, 99) = 9
            account(3) = 10
            account(4) = 10
            order(0, 0, 1, 0) refused 3.0
            orderOf(9, 2) = 20
            undo() = 7
            order(2, 0, 19, 98) = 9
            orderOf(9, 2) = 19
            order(0, 0, 1, 0) refused 3.0
            """);
        ROWS.test("Orders stay when they are delivered", READY, "order(0, 0, 1, 0)\n".repeat(10), "run(0, 20) = 0\n", WEEK, """
            account(3) = 10
            account(4) = 0
            order(0, 0, 1, 0) refused 3.0
            orderOf(9, 4) = 1
            """);
        ROWS.test("Orders stay when they are called off", FLOOR, "order(0, 0, 1, 0)\n".repeat(10), """
            callOff(0) = 9
            callOff(9) = 8
            account(3) = 10
            order(0, 0, 1, 0) refused 3.0
            orderOf(9, 4) = 2
            """);
    }

    private static void orderBounds() {
        ROWS.test("An order has 1 crate at least", FLOOR, """
            order(0, 0, 0, 0) refused 2.0
            order(0, 0, -1, 0) refused 2.0
            order(0, 0, min, 0) refused 2.0
            order(0, 0, 1, 0) = 0
            orderOf(0, 2) = 1
            """);
        ROWS.test("An order has 20 crates at most", FLOOR, """
            order(0, 0, 21, 0) refused 2.0
            order(0, 0, max, 0) refused 2.0
            order(0, 0, 20, 0) = 0
            orderOf(0, 2) = 20
            """);
        ROWS.test("The week of an order is 0 at least", FLOOR, """
            order(0, 0, 1, -1) refused 2.0
            order(0, 0, 1, min) refused 2.0
            order(0, 0, 1, 0) = 0
            orderOf(0, 3) = 0
            """);
        ROWS.test("The week of an order is 99 at most", FLOOR, """
            order(0, 0, 1, 100) refused 2.0
            order(0, 0, 1, max) refused 2.0
            order(0, 0, 1, 99) = 0
            orderOf(0, 3) = 99
            """);
        ROWS.test("The part of an order is there", FLOOR, """
            order(-1, 0, 1, 0) refused 1.0
            order(3, 0, 1, 0) refused 1.0
            order(8, 0, 1, 0) refused 1.0
            order(min, 0, 1, 0) refused 1.0
            order(max, 0, 1, 0) refused 1.0
            order(2, 0, 1, 0) = 0
            """);
        ROWS.test("The colour of an order is there", FLOOR, """
            order(0, -1, 1, 0) refused 1.0
            order(0, 2, 1, 0) refused 1.0
            order(0, 6, 1, 0) refused 1.0
            order(0, min, 1, 0) refused 1.0
            order(0, max, 1, 0) refused 1.0
            order(0, 1, 1, 0) = 0
            """);
    }

    private static void orderReasons() {
        ROWS.test("Promise 13: the reason 1 is looked at ahead of 2", FLOOR, """
            order(3, 0, 0, 0) refused 1.0
            order(0, 2, 1, 100) refused 1.0
            order(-1, 0, 21, -1) refused 1.0
            order(0, -1, 0, 0) refused 1.0
            """);
        ROWS.test("Promise 13: the reasons 1 and 2 are looked at ahead of 3", FLOOR, "order(0, 0, 1, 0)\n".repeat(10), """
            order(3, 0, 1, 0) refused 1.0
            order(0, 2, 1, 0) refused 1.0
            order(0, 0, 0, 0) refused 2.0
            order(0, 0, 1, 100) refused 2.0
            order(0, 0, 1, 0) refused 3.0
            """);
        ROWS.test("An order for a week that has ended is taken", FLOOR, WEEK, WEEK, """
            order(0, 0, 1, 0) = 0
            due(0) = 1
            """);
    }

    private static void callOff() {
        String rows = READY + """
            order(0, 0, 1, 0) = 0
            order(0, 1, 1, 0) = 1
            order(0, 0, 1, 5) = 2
            """;
        ROWS.test("Promise 14: callOff returns the number of orders that are open then", rows, """
            callOff(1) = 2
            account(4) = 2
            callOff(0) = 1
            callOff(2) = 0
            account(4) = 0
            account(3) = 3
            """);
        ROWS.test("Promise 14: the delivered ones are not open", rows, """
            run(0, 2) = 0
            """, WEEK, """
            account(4) = 2
            callOff(2) = 1
            """);
        ROWS.test("Promise 14: there is no such order", rows, """
            callOff(-1) refused 1.0
            callOff(3) refused 1.0
            callOff(10) refused 1.0
            callOff(min) refused 1.0
            callOff(max) refused 1.0
            callOff(2) = 2
            """);
        ROWS.test("Promise 14: an order that is called off is not open", rows, """
            callOff(1) = 2
            callOff(1) refused 9.0
            """);
        ROWS.test("Promise 14: a delivered order is not open", rows, """
            run(0, 2) = 0
            """, WEEK, """
            callOff(0) refused 9.0
            callOff(1) = 1
            """);
        ROWS.test("Promise 14: a late order is open", rows, WEEK, """
            letter(1) = 'l'
            callOff(1) = 2
            orderOf(1, 4) = 2
            orderOf(1, 5) = 1
            """);
    }

    private static void open() {
        ROWS.test("An order that is called off is looked at no more", READY, """
            order(0, 0, 1, 0) = 0
            order(0, 0, 1, 0) = 1
            callOff(0) = 1
            run(0, 2) = 0
            """, WEEK, """
            orderOf(0, 4) = 2
            orderOf(0, 5) = 0
            orderOf(1, 4) = 1
            stock(0, 0, 0) = 0
            """, WEEK, """
            orderOf(0, 5) = 0
            """);
        ROWS.test("An order that is delivered is looked at no more", READY, """
            order(0, 0, 1, 0) = 0
            run(0, 4) = 0
            """, WEEK, WEEK, """
            stock(0, 0, 0) = 1
            stock(0, 0, 2) = 1
            orderOf(0, 5) = 0
            """);
    }

    private static void enoughCrates() {
        ROWS.test("An order is delivered if there are just as many closed crates", READY, """
            order(0, 0, 2, 0) = 0
            run(0, 4) = 0
            stock(0, 0, 0) = 2
            """, WEEK, """
            orderOf(0, 4) = 1
            orderOf(0, 5) = 0
            stock(0, 0, 0) = 0
            stock(0, 0, 2) = 2
            """);
        ROWS.test("An order is late if there is one closed crate fewer", READY, """
            order(0, 0, 2, 0) = 0
            run(0, 3) = 0
            stock(0, 0, 0) = 1
            stock(0, 0, 1) = 2
            """, WEEK, """
            orderOf(0, 4) = 0
            orderOf(0, 5) = 1
            stock(0, 0, 0) = 1
            stock(0, 0, 2) = 0
            """);
        ROWS.test("An order takes no more closed crates than it has", READY, """
            order(0, 0, 2, 0) = 0
            run(0, 7) = 0
            stock(0, 0, 0) = 3
            """, WEEK, """
            orderOf(0, 4) = 1
            stock(0, 0, 0) = 1
            stock(0, 0, 1) = 2
            stock(0, 0, 2) = 2
            """);
        ROWS.test("The crates of several orders are delivered one after the other", READY, """
            order(0, 0, 2, 0) = 0
            order(0, 0, 1, 0) = 1
            order(0, 0, 3, 1) = 2
            run(0, 16) = 0
            """, WEEK, """
            stock(0, 0, 0) = 5
            stock(0, 0, 2) = 3
            """, WEEK, """
            stock(0, 0, 0) = 2
            stock(0, 0, 2) = 6
            made(0, 1) = 32
            """);
        ROWS.test("An order of 20 crates", READY, """
            order(0, 0, 20, 0) = 0
            run(0, 39) = 0
            stock(0, 0, 0) = 19
            """, WEEK, """
            letter(0) = 'l'
            run(0, 1) = 0
            """, WEEK, """
            letter(0) = 'd'
            stock(0, 0, 2) = 20
            """);
    }

    private static void whichCrates() {
        ROWS.test("The crates are those of the part of an order", READY, """
            order(2, 0, 1, 0) = 0
            order(1, 0, 1, 0) = 1
            run(0, 4) = 0
            """, WEEK, """
            letter(0) = 'l'
            letter(1) = 'd'
            stock(0, 0, 0) = 2
            stock(1, 0, 0) = 0
            """);
        ROWS.test("The crates are those of the colour of an order", READY, """
            order(0, 0, 1, 0) = 0
            order(0, 1, 1, 0) = 1
            run(1, 4) = 0
            """, WEEK, """
            letter(0) = 'l'
            letter(1) = 'd'
            stock(0, 1, 0) = 1
            """);
    }

    private static void whichWeeks() {
        String rows = READY + """
            order(0, 0, 1, 0) = 0
            order(0, 0, 1, 1) = 1
            order(0, 0, 1, 2) = 2
            """;
        ROWS.test("Orders are looked at whose week is at most this one", rows, WEEK, """
            orderOf(0, 5) = 1
            orderOf(1, 5) = 0
            orderOf(2, 5) = 0
            """, WEEK, """
            orderOf(0, 5) = 2
            orderOf(1, 5) = 1
            orderOf(2, 5) = 0
            """, WEEK, """
            orderOf(0, 5) = 3
            orderOf(1, 5) = 2
            orderOf(2, 5) = 1
            """);
        ROWS.test("An order of a later week is not delivered", rows, """
            run(0, 6) = 0
            """, WEEK, """
            letter(0) = 'd'
            letter(1) = 'o'
            letter(2) = 'o'
            stock(0, 0, 0) = 2
            """, WEEK, """
            letter(1) = 'd'
            letter(2) = 'o'
            stock(0, 0, 0) = 1
            """, WEEK, """
            letter(2) = 'd'
            lateness() = 0d
            """);
        ROWS.test("Not before the week ends", rows, """
            run(0, 6) = 0
            pause(439) = 0
            letter(0) = 'o'
            pause(1) = 1
            letter(0) = 'd'
            """);
        ROWS.test("Orders of the week 99", READY, """
            set(0, 60) = 480
            order(0, 0, 1, 98) = 0
            order(0, 0, 1, 99) = 1
            """, "pause(960) = 16\n".repeat(6), """
            pause(140) = 2
            account(6) = 98
            orderOf(0, 5) = 0
            pause(50) = 1
            orderOf(0, 5) = 1
            orderOf(1, 5) = 0
            pause(60) = 1
            orderOf(0, 5) = 2
            orderOf(1, 5) = 1
            account(6) = 100
            """);
        ROWS.test("An order of a week that has ended is late from the next end on", READY, WEEK, WEEK, """
            order(0, 0, 1, 0) = 0
            orderOf(0, 5) = 0
            """, WEEK, """
            orderOf(0, 5) = 1
            """);
    }

    private static void ascending() {
        ROWS.test("Orders are looked at in ascending order of their numbers", READY, """
            order(0, 0, 1, 1) = 0
            order(0, 0, 1, 0) = 1
            order(0, 0, 1, 0) = 2
            run(0, 2) = 0
            """, WEEK, """
            letter(0) = 'o'
            letter(1) = 'd'
            letter(2) = 'l'
            run(0, 2) = 0
            """, WEEK, """
            letter(0) = 'd'
            letter(2) = 'l'
            orderOf(2, 5) = 2
            """);
        ROWS.test("An order that needs too many crates leaves them to the next one", READY, """
            order(0, 0, 3, 0) = 0
            order(0, 0, 1, 0) = 1
            order(0, 0, 2, 0) = 2
            order(0, 0, 1, 0) = 3
            run(0, 4) = 0
            """, WEEK, """
            letter(0) = 'l'
            letter(1) = 'd'
            letter(2) = 'l'
            letter(3) = 'd'
            stock(0, 0, 0) = 0
            """);
        ROWS.test("All ten orders are looked at", READY, "order(0, 0, 1, 0)\n".repeat(10), """
            run(0, 18) = 0
            """, WEEK, """
            due(0) = 512
            letter(8) = 'd'
            letter(9) = 'l'
            account(4) = 1
            """);
    }

    private static void late() {
        ROWS.test("An order is late by one more week with each week", READY, """
            order(0, 0, 1, 0) = 0
            orderOf(0, 5) = 0
            """, WEEK, """
            orderOf(0, 5) = 1
            pause(960) = 2
            orderOf(0, 5) = 3
            run(0, 2) = 0
            """, WEEK, """
            orderOf(0, 5) = 3
            orderOf(0, 4) = 1
            """, WEEK, """
            orderOf(0, 5) = 3
            """);
    }

    private static void shots() {
        ROWS.test("Promise 28: the fewest shots for the crates that are lacking", READY, """
            order(0, 0, 1, 0) = 0
            order(0, 0, 20, 0) = 1
            order(1, 0, 1, 0) = 2
            order(1, 1, 7, 0) = 3
            shots(0) = 2
            shots(1) = 40
            shots(2) = 3
            shots(3) = 21
            """);
        ROWS.test("Promise 28: a shot too many, rather than one too few", READY, """
            family("1 1 2x4") = 1
            mount(1) = 0
            order(2, 0, 1, 0) = 0
            order(2, 0, 4, 0) = 1
            order(2, 0, 5, 0) = 2
            shots(0) = 2
            shots(1) = 5
            shots(2) = 7
            """);
        ROWS.test("Promise 28: the most shots", """
            colour(0) = 0
            part(50) = 0
            family("1 1 0x1") = 0
            mount(0) = 0
            order(0, 0, 20, 0) = 0
            shots(0) = 1000
            """);
        ROWS.test("Promise 28: the open crate counts", READY, """
            order(1, 0, 2, 0) = 0
            shots(0) = 6
            run(0, 1) = 0
            shots(0) = 5
            run(0, 1) = 0
            shots(0) = 4
            run(0, 1) = 0
            shots(0) = 3
            stock(1, 0, 0) = 1
            run(0, 2) = 0
            shots(0) = 1
            run(0, 1) = 0
            shots(0) = 0
            run(0, 1) = 0
            shots(0) = 0
            """);
        ROWS.test("Promise 28: those of a purge are not counted", READY, """
            order(0, 0, 1, 0) = 0
            run(1, 1) = 0
            shots(0) = 2
            """);
    }

    private static void shotsOfCrates() {
        ROWS.test("Promise 28: 0 if there are as many", READY, """
            order(0, 0, 2, 0) = 0
            run(0, 3) = 0
            shots(0) = 1
            run(0, 1) = 0
            stock(0, 0, 0) = 2
            shots(0) = 0
            """);
        ROWS.test("Promise 28: 0 if there are more", READY, """
            order(0, 0, 1, 0) = 0
            run(0, 9) = 0
            stock(0, 0, 0) = 4
            shots(0) = 0
            """);
        ROWS.test("Promise 28: whatever other orders have", READY, """
            order(0, 0, 1, 0) = 0
            order(0, 0, 1, 0) = 1
            run(0, 2) = 0
            shots(0) = 0
            shots(1) = 0
            """, WEEK, """
            letter(0) = 'd'
            shots(1) = 2
            """);
        ROWS.test("Promise 28: the crates of the part and colour", READY, """
            order(0, 0, 1, 0) = 0
            order(0, 1, 1, 0) = 1
            order(1, 0, 1, 0) = 2
            run(1, 2) = 0
            shots(0) = 2
            shots(1) = 0
            shots(2) = 3
            """);
        ROWS.test("Promise 28: of the family that is mounted", READY, """
            order(0, 0, 5, 0) = 0
            family("1 1 0x9") = 1
            shots(0) = 10
            mount(1) = 0
            shots(0) = 3
            """);
        ROWS.test("Promise 28: though the order is late", READY, """
            order(0, 0, 1, 0) = 0
            """, WEEK, """
            letter(0) = 'l'
            shots(0) = 2
            """);
    }

    private static void shotsRefused() {
        ROWS.test("Promise 28: there is no such order", READY, """
            order(0, 0, 1, 0) = 0
            shots(-1) throws Index
            shots(1) throws Index
            shots(10) throws Index
            shots(min) throws Index
            shots(max) throws Index
            shots(0) = 2
            """);
        ROWS.test("Promise 28: it is called off", READY, """
            order(0, 0, 1, 0) = 0
            callOff(0) = 0
            shots(0) throws Element
            """);
        ROWS.test("Promise 28: it is delivered", READY, """
            order(0, 0, 1, 0) = 0
            run(0, 2) = 0
            """, WEEK, """
            shots(0) throws Element
            """);
        ROWS.test("Promise 28: no family is mounted", FLOOR, """
            order(0, 0, 1, 0) = 0
            shots(0) throws Element
            mount(0) = 0
            shots(0) = 2
            """);
        ROWS.test("Promise 28: the family does not have the part", READY, """
            order(2, 0, 1, 0) = 0
            shots(0) throws Element
            family("1 1 2x1") = 1
            mount(1) = 0
            shots(0) = 5
            """);
        ROWS.test("Promise 28: the family does not have the part, though there are as many crates", READY, """
            order(0, 0, 1, 0) = 0
            run(0, 2) = 0
            shots(0) = 0
            family("1 1 2x1") = 1
            mount(1) = 0
            shots(0) throws Element
            """);
        ROWS.test("Promise 28: the order is looked at ahead of the family", FLOOR, """
            shots(0) throws Index
            order(0, 0, 1, 0) = 0
            shots(1) throws Index
            shots(0) throws Element
            """);
    }

    private static void letter() {
        ROWS.test("Promise 29: \"o\" if it is open", READY, """
            order(0, 0, 1, 1) = 0
            letter(0) = 'o'
            """, WEEK, """
            letter(0) = 'o'
            """);
        ROWS.test("Promise 29: \"l\" if it is open and late", READY, """
            order(0, 0, 1, 0) = 0
            pause(469) = 0
            letter(0) = 'o'
            pause(1) = 1
            letter(0) = 'l'
            """, WEEK, """
            letter(0) = 'l'
            """);
        ROWS.test("Promise 29: \"d\" if it is delivered, late or not", READY, """
            order(0, 0, 1, 0) = 0
            order(0, 1, 1, 0) = 1
            run(0, 2) = 0
            """, WEEK, """
            letter(0) = 'd'
            run(1, 2) = 1
            """, WEEK, """
            letter(1) = 'd'
            orderOf(1, 5) = 1
            """);
        ROWS.test("Promise 29: \"c\" if it is called off, late or not", READY, """
            order(0, 0, 1, 0) = 0
            order(0, 0, 1, 0) = 1
            callOff(0) = 1
            letter(0) = 'c'
            """, WEEK, """
            letter(0) = 'c'
            letter(1) = 'l'
            callOff(1) = 0
            letter(1) = 'c'
            """);
        ROWS.test("Promise 29: there is no such order", READY, """
            order(0, 0, 1, 0) = 0
            letter(-1) throws Index
            letter(1) throws Index
            letter(10) throws Index
            letter(min) throws Index
            letter(max) throws Index
            """);
    }

    private static void due() {
        String rows = READY + """
            order(0, 0, 1, 0) = 0
            order(0, 1, 1, 5) = 1
            order(0, 0, 1, 3) = 2
            order(0, 0, 1, 99) = 3
            """;
        ROWS.test("Promise 30: the open orders whose week is at most a week", rows, """
            due(0) = 1
            due(2) = 1
            due(3) = 5
            due(4) = 5
            due(5) = 7
            due(98) = 7
            due(99) = 15
            due(100) = 15
            due(max) = 15
            """);
        ROWS.test("Promise 30: the week is negative", rows, """
            due(-1) throws Argument
            due(min) throws Argument
            due(0) = 1
            """);
        ROWS.test("Promise 30: no order that is called off", rows, """
            callOff(2) = 3
            due(3) = 1
            due(99) = 11
            """);
        ROWS.test("Promise 30: no order that is delivered, but one that is late", rows, """
            order(0, 1, 1, 0) = 4
            run(0, 2) = 0
            """, WEEK, """
            due(0) = 16
            due(99) = 30
            """);
        ROWS.test("Promise 30: bit 9 for the order 9", FLOOR, "order(0, 0, 1, 0)\n".repeat(9), """
            due(0) = 511
            order(0, 0, 1, 1) = 9
            due(0) = 511
            due(1) = 1023
            """);
    }

    private static void lateness() {
        String rows = READY + """
            order(0, 0, 1, 0) = 0
            order(0, 0, 1, 0) = 1
            order(0, 0, 1, 0) = 2
            order(0, 1, 1, 0) = 3
            """;
        ROWS.test("Promise 33: none is delivered", rows, "lateness() throws Arithmetic\n", WEEK, WEEK, """
            lateness() throws Arithmetic
            callOff(0) = 3
            lateness() throws Arithmetic
            """);
        ROWS.test("Promise 33: one is delivered, and not late", rows, "run(0, 2) = 0\n", WEEK, """
            lateness() = 0d
            """);
        ROWS.test("Promise 33: the weeks of all delivered orders by the number of these", rows, WEEK, WEEK, """
            run(0, 2) = 0
            """, WEEK, """
            lateness() = 2d
            run(0, 4) = 0
            """, WEEK, """
            lateness() = 8d/3d
            orderOf(3, 5) = 4
            callOff(3) = 0
            lateness() = 8d/3d
            """);
    }

    private static void asked() {
        String rows = READY + """
            order(2, 1, 20, 99) = 0
            order(1, 0, 3, 4) = 1
            order(0, 0, 1, 0) = 2
            order(0, 0, 1, 0) = 3
            run(0, 2) = 0
            """ + WEEK;
        ROWS.test("Promise 27: orderOf", rows, """
            orderOf(0, 0) = 2
            orderOf(0, 1) = 1
            orderOf(0, 2) = 20
            orderOf(0, 3) = 99
            orderOf(0, 4) = 0
            orderOf(0, 5) = 0
            orderOf(1, 0) = 1
            orderOf(1, 1) = 0
            orderOf(1, 2) = 3
            orderOf(1, 3) = 4
            orderOf(2, 4) = 1
            orderOf(2, 5) = 0
            orderOf(3, 4) = 0
            orderOf(3, 5) = 1
            callOff(3) = 2
            orderOf(3, 4) = 2
            """);
        ROWS.test("Promise 27: there is no such order", rows, """
            orderOf(-1, 0) throws Index
            orderOf(4, 0) throws Index
            orderOf(10, 0) throws Index
            orderOf(min, 0) throws Index
            orderOf(max, 0) throws Index
            """);
        ROWS.test("Promise 27: what is not from 0 to 5", rows, """
            orderOf(0, -1) throws Argument
            orderOf(3, 6) throws Argument
            orderOf(0, min) throws Argument
            orderOf(0, max) throws Argument
            """);
        ROWS.test("Promise 27: the order is looked at ahead of what", rows, """
            orderOf(4, 6) throws Index
            orderOf(-1, -1) throws Index
            """);
    }
}
