/** Reasons: promise 31, the paragraph "Reasons" of "Terms", and the first of several conditions. */
public final class ReasonsTest {
    private static final Rows ROWS = new Rows("ReasonsTest");

    /** The family 0 takes 5 minutes and 10 grams a shot, and is mounted. */
    private static final String FLOOR = """
        colour(2) = 0
        colour(5) = 1
        part(4) = 0
        part(3) = 1
        family("5 10 0x2 1x1") = 0
        mount(0) = 0
        """;

    public static void main(String[] args) {
        eachReason();
        details();
        noDetail();
        behindTen();
        behindThirteen();
        depths();
        depthsOfThree();
        latestRefusal();
        whatLeavesTheReasons();
        ROWS.end();
    }

    private static void eachReason() {
        ROWS.test("1, there is no such colour, part, family, dryer or order", FLOOR, """
            run(2, 1) refused 1.0
            order(2, 0, 1, 0) refused 1.0
            order(0, 2, 1, 0) refused 1.0
            mount(1) refused 1.0
            empty(3) refused 1.0
            load(3, 0, 1) refused 1.0
            load(0, 2, 1) refused 1.0
            callOff(0) refused 1.0
            family("1 1 2x1") refused 1.0
            """);
        ROWS.test("2, a number is out of range", FLOOR, """
            colour(10) refused 2.0
            part(0) refused 2.0
            family("0 1 0x1") refused 2.0
            load(0, 0, 0) refused 2.0
            pause(0) refused 2.0
            run(0, 0) refused 2.0
            order(0, 0, 0, 0) refused 2.0
            set(4, 0) refused 2.0
            set(2, 6) refused 2.0
            """);
        ROWS.test("3, there are as many as there can be", FLOOR, "colour(1)\n".repeat(4), "part(1)\n".repeat(6),
            "family(\"1 1 0x1\")\n".repeat(5), "order(0, 0, 1, 0)\n".repeat(10), """
            colour(1) refused 3.0
            part(1) refused 3.0
            family("1 1 0x1") refused 3.0
            order(0, 0, 1, 0) refused 3.0
            """);
        ROWS.test("4, the family is mounted already", FLOOR, "mount(0) refused 4.0");
        ROWS.test("5, no family is mounted", FLOOR, """
            undo() = 5
            run(0, 1) refused 5.0
            """);
        ROWS.test("6, the dryer has another colour", FLOOR, """
            load(0, 1, 5) = 5
            load(0, 0, 5) refused 6.1
            """);
        ROWS.test("7, the dryer would have more than 99999 grams", FLOOR, """
            load(0, 1, 5) = 5
            load(0, 1, 99995) refused 7.0
            load(0, 1, 99994) = 99999
            """);
        ROWS.test("8, the dryer is empty", FLOOR, "empty(2) refused 8.0");
        ROWS.test("9, the order is not open", FLOOR, """
            order(0, 0, 1, 0) = 0
            callOff(0) = 0
            callOff(0) refused 9.0
            """);
        ROWS.test("10, no dryer has what is needed", FLOOR, "run(0, 1) refused 10.0");
    }

    private static void details() {
        ROWS.test("The detail of 6 is the other colour, that of the dryer", FLOOR, """
            colour(9) = 2
            load(0, 2, 5) = 5
            load(1, 1, 5) = 5
            load(2, 0, 5) = 5
            load(0, 0, 5) refused 6.2
            load(0, 1, 5) refused 6.2
            load(1, 2, 5) refused 6.1
            load(2, 1, 5) refused 6.0
            """);
        ROWS.test("The detail of 11 is the minutes that are lacking", FLOOR, """
            load(0, 0, 5) = 5
            run(0, 1) refused 10.0 11.60
            pause(59) = 0
            run(0, 1) refused 10.0 11.1
            set(1, 999) = 60
            run(0, 1) refused 10.0 11.940
            """);
        ROWS.test("The detail of 12 is the grams that are lacking", FLOOR, """
            set(1, 0) = 60
            load(0, 0, 19) = 19
            run(0, 2) refused 10.0 12.1
            run(0, 200) refused 10.0 12.1981
            run(0, 1) = 0
            run(0, 1) refused 10.0 12.1
            """);
        ROWS.test("The detail of 13 is the index of the command, from 0", FLOOR, """
            program("w0") refused 13.0 2.0
            program("w1;w0") refused 13.1 2.0
            program("w1;w1;w0") refused 13.2 2.0
            program("w1;w1;w0;w1") refused 13.2 2.0
            program("w1;w0;w0;w0") refused 13.1 2.0
            """);
        ROWS.test("The detail of 14 is the part that comes twice", FLOOR, """
            family("1 1 0x1 0x1") refused 14.0
            family("1 1 1x1 1x1") refused 14.1
            family("1 1 1x1 0x1 0x1") refused 14.0
            family("1 1 1x1 0x1 1x1") refused 14.1
            """);
    }

    private static void noDetail() {
        ROWS.test("If nothing else is told, the detail is 0, also behind a refusal with another detail", FLOOR, """
            load(0, 1, 99999) = 99999
            load(0, 0, 5) refused 6.1
            run(2, 1) refused 1.0
            load(0, 0, 5) refused 6.1
            pause(0) refused 2.0
            load(0, 0, 5) refused 6.1
            mount(0) refused 4.0
            load(0, 0, 5) refused 6.1
            load(0, 1, 5) refused 7.0
            load(0, 0, 5) refused 6.1
            empty(1) refused 8.0
            load(0, 0, 5) refused 6.1
            run(0, 1) refused 10.0
            """);
        ROWS.test("Of the reasons 3, 5 and 9 the detail is 0", FLOOR, "order(0, 0, 1, 0)\n".repeat(10), """
            callOff(3) = 9
            load(0, 1, 5) = 5
            load(0, 0, 5) refused 6.1
            order(0, 0, 1, 0) refused 3.0
            load(0, 0, 5) refused 6.1
            callOff(3) refused 9.0
            """);
        ROWS.test("Of the reason 5 the detail is 0", FLOOR, """
            undo() = 5
            load(0, 1, 5) = 5
            load(0, 0, 5) refused 6.1
            run(0, 1) refused 5.0
            """);
    }

    private static void behindTen() {
        ROWS.test("Behind 10 there is nothing if no dryer has the colour", FLOOR, """
            run(0, 1) refused 10.0
            load(0, 1, 5) = 5
            load(1, 1, 5) = 5
            load(2, 1, 5) = 5
            run(0, 1) refused 10.0
            run(1, 1) refused 10.0 11.60
            """);
        ROWS.test("Behind 10 there is 11 ahead of 12", FLOOR, """
            load(0, 0, 5) = 5
            run(0, 1) refused 10.0 11.60
            set(1, 1) = 60
            run(0, 1) refused 10.0 11.1
            set(1, 0) = 1
            run(0, 1) refused 10.0 12.5
            """);
        ROWS.test("Behind 10 the lowest dryer with the colour counts: 11, though a higher one is dry", FLOOR, """
            load(1, 0, 9) = 9
            pause(60) = 0
            load(0, 0, 5000) = 5000
            load(2, 0, 5000) = 5000
            run(0, 1) refused 10.0 11.60
            """);
        ROWS.test("Behind 10 the lowest dryer with the colour counts: 12, though a higher one has enough", FLOOR, """
            load(0, 1, 5000) = 5000
            load(1, 0, 9) = 9
            pause(60) = 0
            load(2, 0, 5000) = 5000
            run(0, 1) refused 10.0 12.1
            """);
        ROWS.test("There is nothing behind the other reasons", FLOOR, """
            load(0, 0, 5) = 5
            run(0, 1) refused 10.0 11.60
            run(2, 1) refused 1.0
            run(0, 1) refused 10.0 11.60
            pause(0) refused 2.0
            run(0, 1) refused 10.0 11.60
            mount(0) refused 4.0
            run(0, 1) refused 10.0 11.60
            run(1, 1) refused 10.0
            """);
    }

    private static void behindThirteen() {
        ROWS.test("Behind 13 there is the reason for which the command is refused", FLOOR, """
            load(1, 1, 5) = 5
            program("m1") refused 13.0 1.0
            program("w1;w0") refused 13.1 2.0
            program("w1;w1;m0") refused 13.2 4.0
            program("w1;l10g5") refused 13.1 6.1
            program("l11g99995") refused 13.0 7.0
            undo() = 6
            undo() = 5
            program("w1;r0x1") refused 13.1 5.0
            """);
        ROWS.test("Behind 13 there is 10, with nothing behind it", FLOOR, """
            program("w1;r0x1") refused 13.1 10.0
            """);
        ROWS.test("Behind 13 there is 10, with 11 behind it", FLOOR, """
            program("w1;l20g5;w7;r0x1") refused 13.3 10.0 11.53
            """);
        ROWS.test("Behind 13 there is 10, with 12 behind it", FLOOR, """
            program("w1;l20g5;w60;r0x1") refused 13.3 10.0 12.5
            """);
        ROWS.test("Behind a shorter chain there is nothing of a longer one", FLOOR, """
            program("w1;l20g5;w60;r0x1") refused 13.3 10.0 12.5
            program("r0x1") refused 13.0 10.0
            program("w1;l20g5;w60;r0x1") refused 13.3 10.0 12.5
            program("m0") refused 13.0 4.0
            program("w1;l20g5;w60;r0x1") refused 13.3 10.0 12.5
            mount(0) refused 4.0
            """);
    }

    private static void depths() {
        ROWS.test("Promise 31: nothing was refused", FLOOR, """
            reason(0, false) throws Element
            reason(0, true) throws Element
            reason(1, false) throws Element
            reason(max, true) throws Element
            """);
        ROWS.test("Promise 31: depth is negative", FLOOR, """
            reason(-1, false) throws Argument
            reason(-1, true) throws Argument
            reason(min, false) throws Argument
            reason(min, true) throws Argument
            mount(0) refused 4.0
            reason(-1, false) throws Argument
            reason(-1, true) throws Argument
            reason(min, true) throws Argument
            """);
        ROWS.test("Promise 31: there is no reason so far behind, of one", FLOOR, """
            load(2, 1, 5) = 5
            load(2, 0, 5) refused 6.1
            reason(0, false) = 6
            reason(0, true) = 1
            reason(1, false) throws Element
            reason(1, true) throws Element
            reason(2, false) throws Element
            reason(max, false) throws Element
            reason(max, true) throws Element
            """);
    }

    private static void depthsOfThree() {
        ROWS.test("Promise 31: there is no reason so far behind, of two", FLOOR, """
            load(2, 1, 5) = 5
            run(1, 1) refused 10.0 11.60
            reason(0, false) = 10
            reason(0, true) = 0
            reason(1, false) = 11
            reason(1, true) = 60
            reason(2, false) throws Element
            reason(2, true) throws Element
            """);
        ROWS.test("Promise 31: there is no reason so far behind, of three", FLOOR, """
            load(2, 1, 5) = 5
            program("w1;r1x1") refused 13.1 10.0 11.59
            reason(0, false) = 13
            reason(0, true) = 1
            reason(1, false) = 10
            reason(1, true) = 0
            reason(2, false) = 11
            reason(2, true) = 59
            reason(3, false) throws Element
            reason(3, true) throws Element
            reason(max, false) throws Element
            """);
    }

    private static void latestRefusal() {
        ROWS.test("Promise 31: what was refused last, of all methods that refuse", FLOOR, """
            colour(10) refused 2.0
            load(9, 9, 0) refused 1.0
            part(51) refused 2.0
            family("1 1 0x1 0x2") refused 14.0
            program("w1;w0") refused 13.1 2.0
            mount(0) refused 4.0
            empty(1) refused 8.0
            pause(1000) refused 2.0
            run(0, 1) refused 10.0
            order(0, 0, 1, 100) refused 2.0
            callOff(0) refused 1.0
            set(3, 100) refused 2.0
            """);
    }

    private static void whatLeavesTheReasons() {
        String rows = FLOOR + """
            load(2, 1, 5) = 5
            save() = 0
            program("w1;r1x1") refused 13.1 10.0 11.59
            """;
        String kept = """
            reason(0, false) = 13
            reason(0, true) = 1
            reason(1, false) = 10
            reason(1, true) = 0
            reason(2, false) = 11
            reason(2, true) = 59
            reason(3, false) throws Element
            """;
        ROWS.test("The reasons stay behind changes", rows, """
            colour(1) = 2
            part(1) = 2
            family("1 1 0x1") = 1
            mount(1) = 0
            load(0, 0, 9) = 9
            empty(0) = 9
            pause(999) = 2
            run(1, 1) = 0
            order(0, 0, 1, 0) = 0
            callOff(0) = 0
            set(1, 5) = 60
            program("w1") = 1
            """, kept);
        ROWS.test("The reasons stay behind undo, save and restore", rows, """
            pause(1) = 0
            undo() = 7
            undo() = 6
            """, kept, """
            save() = 0
            restore() = 0
            """, kept);
        ROWS.test("The reasons stay behind append and behind a fault", rows, """
            append('x') = 1
            family() fault 0
            program("w1;") fault 3
            """, kept);
        ROWS.test("The reasons stay behind other exceptions", rows, """
            append("w123456789012345678901234567890123456789012345678901234567890123456789012345678a")
            append('x') throws State
            purge(9, 9) throws Index
            minutes(0, 0) throws Argument
            best(-1) throws Argument
            bestColour(0, 0) throws Element
            shots(0) throws Index
            due(-1) throws Argument
            reason(3, true) throws Element
            reason(-1, true) throws Argument
            scrap() throws Arithmetic
            lateness() throws Arithmetic
            account(19) throws Argument
            """, kept);
        ROWS.test("The reasons stay behind an undo that throws", """
            mount(0) refused 1.0
            undo() throws State
            restore() throws State
            reason(0, false) = 1
            """);
    }
}
