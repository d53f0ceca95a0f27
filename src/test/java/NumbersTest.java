/** Shares and accounts: promises 32 and 34. */
public final class NumbersTest {
    private static final Rows ROWS = new Rows("NumbersTest");

    /** The shades 2 and 5; crates of 4, 3 and 5; the family 0 takes 5 minutes and 10 grams a shot. */
    private static final String FLOOR = """
        colour(2) = 0
        colour(5) = 1
        part(4) = 0
        part(3) = 1
        part(5) = 2
        family("5 10 0x2 1x1") = 0
        """;
    /** The family is mounted, and granulate is dry at once. */
    private static final String READY = FLOOR + """
        set(1, 0) = 60
        mount(0) = 0
        load(0, 0, 50000) = 50000
        load(1, 1, 50000) = 50000
        """;

    public static void main(String[] args) {
        scrap();
        catalogueAccounts();
        machineAccounts();
        textAccount();
        settingAccounts();
        noAccount();
        ROWS.end();
    }

    private static void scrap() {
        ROWS.test("Promise 32: none were made", READY, """
            scrap() throws Arithmetic
            pause(1) = 0
            scrap() throws Arithmetic
            run(0, 1) = 0
            undo() = 7
            scrap() throws Arithmetic
            """);
        ROWS.test("Promise 32: no scrap", READY, """
            run(0, 1) = 0
            scrap() = 0f
            run(0, 7) = 0
            scrap() = 0f
            """);
        ROWS.test("Promise 32: the pieces of all parts that are scrap by those that were made", READY, """
            run(1, 7) = 0
            run(0, 5) = 7
            scrap() = 21f/57f
            run(1, 1) = 1
            scrap() = 24f/63f
            """);
        ROWS.test("Promise 32: one piece", READY, """
            family("1 1 2x1") = 1
            mount(1) = 0
            run(0, 1) = 0
            scrap() = 0f
            run(1, 1) = 1
            scrap() = 1f/3f
            run(0, 1) = 7
            scrap() = 8f/11f
            """);
    }

    private static void catalogueAccounts() {
        ROWS.test("Promise 34: the colours, the parts, the families, the orders and the open ones", FLOOR, """
            account(0) = 2
            account(1) = 3
            account(2) = 1
            account(3) = 0
            account(4) = 0
            order(0, 0, 1, 0) = 0
            order(0, 0, 1, 0) = 1
            account(3) = 2
            account(4) = 2
            callOff(0) = 1
            account(3) = 2
            account(4) = 1
            colour(1) = 2
            account(0) = 3
            part(1) = 3
            account(1) = 4
            family("1 1 0x1") = 1
            account(2) = 2
            """);
        ROWS.test("Promise 34: a delivered order is not open", READY, """
            order(0, 0, 1, 0) = 0
            run(0, 2) = 0
            account(4) = 1
            pause(460) = 1
            account(3) = 1
            account(4) = 0
            """);
    }

    private static void machineAccounts() {
        ROWS.test("Promise 34: now, and the number of the week", """
            pause(479) = 0
            account(5) = 479
            account(6) = 0
            pause(1) = 1
            account(5) = 480
            account(6) = 1
            """);
        ROWS.test("Promise 34: the colour of the machine, -1 if there is none", READY, """
            account(7) = -1
            run(0, 1) = 0
            account(7) = 0
            run(1, 1) = 1
            account(7) = 1
            """);
        ROWS.test("Promise 34: the family that is mounted, -1 if there is none", FLOOR, """
            account(8) = -1
            mount(0) = 0
            account(8) = 0
            family("1 1 0x1") = 1
            mount(1) = 0
            account(8) = 1
            """);
        ROWS.test("Promise 34: the grams in all dryers, and those that were taken by runs", READY, """
            account(9) = 100000
            account(10) = 0
            load(2, 0, 99999) = 99999
            account(9) = 199999
            run(0, 3) = 0
            account(9) = 199969
            account(10) = 30
            empty(2) = 99999
            account(9) = 99970
            account(10) = 30
            """);
        ROWS.test("Promise 34: the most grams in all dryers", FLOOR, """
            load(0, 0, 99999) = 99999
            load(1, 0, 99999) = 99999
            load(2, 1, 99999) = 99999
            account(9) = 299997
            """);
        ROWS.test("Promise 34: the shots of all runs, and those of purges", READY, """
            run(1, 3) = 0
            account(11) = 3
            account(12) = 0
            run(0, 2) = 7
            account(11) = 12
            account(12) = 7
            run(0, 2) = 0
            run(1, 2) = 1
            account(11) = 17
            account(12) = 8
            """);
    }

    private static void textAccount() {
        ROWS.test("Promise 34: the characters in the text buffer", """
            account(14) = 0
            append('w') = 1
            account(14) = 1
            append("1;w2")
            account(14) = 5
            program() = 2
            account(14) = 0
            """);
    }

    private static void settingAccounts() {
        ROWS.test("Promise 34: the settings 0 to 3", """
            set(0, 481) = 480
            set(1, 61) = 60
            set(2, 3) = 2
            set(3, 11) = 10
            account(15) = 481
            account(16) = 61
            account(17) = 3
            account(18) = 11
            """);
    }

    private static void noAccount() {
        ROWS.test("Promise 34: what is not from 0 to 18", FLOOR, """
            account(-1) throws Argument
            account(0) = 2
            account(18) = 10
            account(19) throws Argument
            account(min) throws Argument
            account(max) throws Argument
            """);
    }
}
