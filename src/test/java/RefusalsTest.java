/**
 * Each call that is refused or throws, on a floor on which there is something of everything, and on a full one: all
 * that can be asked is as before, the latest changes, the snapshot and the text too.
 */
public final class RefusalsTest {
    private static final Rows ROWS = new Rows("RefusalsTest");

    /** A delivered order, a late one, an open one and one that is called off; crates, scrap, a snapshot and reasons. */
    private static final String BUSY = """
        colour(2) = 0
        colour(5) = 1
        colour(9) = 2
        part(4) = 0
        part(3) = 1
        part(5) = 2
        family("5 10 0x2 1x1") = 0
        family("1 1 2x3 0x9") = 1
        mount(0)
        load(0, 0, 500)
        load(1, 1, 500)
        pause(60)
        run(1, 7)
        run(0, 5)
        order(0, 0, 1, 0)
        order(1, 1, 3, 0)
        save()
        order(0, 1, 1, 5)
        order(2, 0, 3, 0)
        callOff(3)
        pause(480)
        set(0, 400)
        set(1, 70)
        set(2, 3)
        load(2, 2, 300)
        pause(33)
        program("w1;r2x1") refused 13.1 10.0 11.36
        family("1 1") fault 3
        """;
    /** As many as there can be of all. */
    private static final String FULL = "colour(3)\n".repeat(6) + "part(7)\n".repeat(8) + "family(\"2 3 7x4\")\n".repeat(6)
        + "order(7, 5, 20, 99)\n".repeat(10) + """
        load(0, 5, 99999)
        load(1, 4, 99999)
        load(2, 3, 99999)
        mount(5)
        save()
        callOff(9)
        """;

    public static void main(String[] args) {
        each("Busy", BUSY, BUSY_ROWS);
        each("Busy, with a text begun", BUSY + "append(\"w5;w\")\n", BUSY_ROWS);
        each("Busy, a text", BUSY, BUSY_TEXTS);
        each("Busy, a question", BUSY, BUSY_QUESTIONS);
        each("Full", FULL, FULL_ROWS);
        ROWS.test("Busy, the 81st character", BUSY, "append(\"" + "w".repeat(79) + "\")\n", """
            append('w') = 80
            append('w') throws State
            """);
        ROWS.test("Nothing to undo", "pause(7) = 0\nsave() = 0\nundo() = 0\nundo() throws State\n");
        ROWS.test("No snapshot", "pause(7) = 0\nrestore() throws State\n");
        ROWS.end();
    }

    private static void each(String said, String floor, String rows) {
        for (String row : rows.split("\n")) {
            ROWS.test(said, floor, row);
        }
    }

    private static final String BUSY_ROWS = """
        colour(-1) refused 2.0
        colour(10) refused 2.0
        part(0) refused 2.0
        part(51) refused 2.0
        mount(-1) refused 1.0
        mount(2) refused 1.0
        mount(0) refused 4.0
        load(-1, 0, 1) refused 1.0
        load(3, 0, 1) refused 1.0
        load(0, -1, 1) refused 1.0
        load(0, 3, 1) refused 1.0
        load(0, 0, 0) refused 2.0
        load(0, 0, 100000) refused 2.0
        load(0, 1, 5) refused 6.0
        load(2, 0, 5) refused 6.2
        load(0, 0, 99999) refused 7.0
        empty(-1) refused 1.0
        empty(3) refused 1.0
        pause(0) refused 2.0
        pause(1000) refused 2.0
        run(-1, 1) refused 1.0
        run(3, 1) refused 1.0
        run(0, 0) refused 2.0
        run(0, 201) refused 2.0
        run(2, 1) refused 10.0 11.37
        run(0, 200) refused 10.0 12.1620
        run(1, 200) refused 10.0 12.1580
        order(-1, 0, 1, 0) refused 1.0
        order(3, 0, 1, 0) refused 1.0
        order(0, -1, 1, 0) refused 1.0
        order(0, 3, 1, 0) refused 1.0
        order(0, 0, 0, 0) refused 2.0
        order(0, 0, 21, 0) refused 2.0
        order(0, 0, 1, -1) refused 2.0
        order(0, 0, 1, 100) refused 2.0
        callOff(-1) refused 1.0
        callOff(4) refused 1.0
        callOff(0) refused 9.0
        callOff(3) refused 9.0
        set(-1, 60) refused 2.0
        set(4, 60) refused 2.0
        set(0, 59) refused 2.0
        set(0, 10000) refused 2.0
        set(1, -1) refused 2.0
        set(1, 1000) refused 2.0
        set(2, -1) refused 2.0
        set(2, 6) refused 2.0
        set(3, -1) refused 2.0
        set(3, 100) refused 2.0
        """;

    private static final String BUSY_TEXTS = """
        family("0 1 0x1") refused 2.0
        family("1 0 0x1") refused 2.0
        family("1 1 0x0") refused 2.0
        family("1 1 3x1") refused 1.0
        family("1 1 1x1 0x3 1x2") refused 14.1
        family("1 1 0x1 ") fault 8
        family("m0") fault 0
        program("m1;m2") refused 13.1 1.0
        program("m1;m0;m0") refused 13.2 4.0
        program("r0x1;r1x1;r3x1") refused 13.2 1.0
        program("r0x1;r1x1;r0x0") refused 13.2 2.0
        program("r0x1;r1x1;r2x1") refused 13.2 10.0 11.22
        program("w37;r2x1;r2x200") refused 13.2 10.0 12.1720
        program("w999;w999;w0") refused 13.2 2.0
        program("l22g5;l21g5") refused 13.1 6.2
        program("l00g99619;l00g1") refused 13.1 7.0
        program("r0x1;r1x1;m1;w500;") fault 18
        program("1 1 0x1") fault 0
        """;

    private static final String BUSY_QUESTIONS = """
        purge(0, 3) throws Index
        minutes(3, 1) throws Index
        minutes(0, 0) throws Argument
        best(8) throws Argument
        bestAgain(-1) throws Argument
        bestColour(8, 0) throws Argument
        bestColour(7, 3) throws Element
        familyOf(2, 0) throws Index
        familyOf(0, 5) throws Argument
        pieces(2, 0) throws Index
        families(3) throws Index
        dryer(3, 0) throws Index
        dryer(0, 4) throws Argument
        stock(0, 3, 0) throws Index
        stock(0, 0, 3) throws Argument
        made(3, 0) throws Index
        made(0, 4) throws Argument
        orderOf(4, 0) throws Index
        orderOf(0, 6) throws Argument
        shots(4) throws Index
        shots(0) throws Element
        shots(3) throws Element
        letter(4) throws Index
        due(-1) throws Argument
        reason(-1, false) throws Argument
        reason(3, true) throws Element
        account(19) throws Argument
        """;

    private static final String FULL_ROWS = """
        colour(0) refused 3.0
        colour(10) refused 2.0
        part(1) refused 3.0
        part(0) refused 2.0
        family("1 1 0x1") refused 3.0
        family("1 1 7x1 6x1 7x1") refused 14.7
        family("1 1 8x1") refused 1.0
        family("1 1 8x0") refused 2.0
        order(0, 0, 1, 0) refused 3.0
        order(0, 0, 21, 0) refused 2.0
        order(8, 0, 1, 0) refused 1.0
        order(0, 6, 1, 0) refused 1.0
        load(0, 5, 1) refused 7.0
        load(1, 5, 1) refused 6.4
        load(2, 6, 1) refused 1.0
        mount(5) refused 4.0
        mount(6) refused 1.0
        run(0, 1) refused 10.0
        run(5, 1) refused 10.0 11.50
        run(6, 1) refused 1.0
        callOff(9) refused 9.0
        callOff(10) refused 1.0
        best(64) throws Argument
        program("m4;l05g1") refused 13.1 7.0
        """;
}
