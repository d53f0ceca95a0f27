/** Changes: promises 35 to 37, and the paragraphs "Changes" and "Exceptions" of "Terms". */
public final class ChangesTest {
    private static final Rows ROWS = new Rows("ChangesTest");

    /** The family 0 takes 5 minutes and 10 grams a shot, and is mounted; granulate is dry at once. */
    private static final String FLOOR = """
        colour(2) = 0
        colour(5) = 1
        part(4) = 0
        part(3) = 1
        family("5 10 0x2 1x1") = 0
        set(1, 0) = 60
        mount(0) = 0
        load(0, 0, 5000) = 5000
        load(1, 1, 5000) = 5000
        """;

    public static void main(String[] args) {
        whatCanBeUndone();
        whatCannotBeUndone();
        latestEight();
        undoOfEach();
        undoThrows();
        refusals();
        save();
        restore();
        restoreThrows();
        restoreForgets();
        whatStays();
        longRuns();
        apart();
        ROWS.end();
    }

    private static void whatCanBeUndone() {
        ROWS.test("What can be undone are the successful calls of twelve methods: the first eight", """
            colour(2) = 0
            account(13) = 1
            part(4) = 0
            account(13) = 2
            family("1 1 0x1") = 0
            account(13) = 3
            mount(0) = 0
            account(13) = 4
            load(0, 0, 500) = 500
            account(13) = 5
            pause(60) = 0
            account(13) = 6
            run(0, 1) = 0
            account(13) = 7
            empty(0) = 499
            account(13) = 8
            """);
        ROWS.test("What can be undone are the successful calls of twelve methods: the others", """
            order(0, 0, 1, 0) refused 1.0
            set(0, 60) = 480
            account(13) = 1
            program("w1;w2;w3") = 3
            account(13) = 2
            colour(2) = 0
            part(4) = 0
            order(0, 0, 1, 0) = 0
            account(13) = 5
            callOff(0) = 0
            account(13) = 6
            """);
    }

    private static void whatCannotBeUndone() {
        ROWS.test("append, save, undo, restore and questions cannot be undone", """
            colour(2) = 0
            append('x') = 1
            account(13) = 1
            save() = 0
            account(13) = 1
            best(1) = 0
            bestAgain(1) = 0
            due(0) = 0
            account(13) = 1
            undo() = 0
            account(13) = 0
            undo() throws State
            restore() = 0
            account(13) = 0
            undo() throws State
            """);
        ROWS.test("A call that is refused or throws cannot be undone", """
            colour(2) = 0
            colour(10) refused 2.0
            program("w0") refused 13.0 2.0
            program("w") fault 1
            family("w") fault 0
            account(99) throws Argument
            account(13) = 1
            undo() = 0
            undo() throws State
            """);
        ROWS.test("A call that changes nothing but succeeds can be undone", """
            set(0, 480) = 480
            account(13) = 1
            undo() = 0
            account(15) = 480
            """);
    }

    private static void latestEight() {
        ROWS.test("The latest 8 are kept: seven changes", "pause(1) = 0\n".repeat(7), """
            account(13) = 7
            """, undos(7, 7), "undo() throws State\naccount(5) = 0\n");
        ROWS.test("The latest 8 are kept: eight changes", "pause(1) = 0\n".repeat(8), """
            account(13) = 8
            """, undos(8, 8), "undo() throws State\naccount(5) = 0\n");
        ROWS.test("The latest 8 are kept: nine changes", "pause(1) = 0\n".repeat(9), """
            account(13) = 8
            """, undos(9, 8), "undo() throws State\naccount(5) = 1\n");
        ROWS.test("The latest 8 are kept: thirty changes", "pause(1) = 0\n".repeat(30), """
            account(13) = 8
            """, undos(30, 8), "undo() throws State\naccount(5) = 22\n");
        ROWS.test("The latest 8 are kept: behind some that were undone", "pause(1) = 0\n".repeat(12), """
            undo() = 7
            undo() = 6
            undo() = 5
            """, "pause(10) = 0\n".repeat(2), """
            account(13) = 7
            pause(10) = 0
            account(13) = 8
            pause(10) = 0
            account(13) = 8
            undo() = 7
            account(5) = 39
            undo() = 6
            undo() = 5
            undo() = 4
            account(5) = 9
            undo() = 3
            undo() = 2
            undo() = 1
            undo() = 0
            account(5) = 5
            undo() throws State
            """);
        ROWS.test("What is undone cannot be undone again", """
            pause(5) = 0
            pause(7) = 0
            undo() = 1
            pause(100) = 0
            undo() = 1
            account(5) = 5
            undo() = 0
            account(5) = 0
            """);
    }

    /** So many undos behind pauses of a minute. */
    private static String undos(int now, int changes) {
        StringBuilder rows = new StringBuilder();
        for (int undone = 1; undone <= changes; undone++) {
            rows.append("undo() = ").append(changes - undone).append("\naccount(5) = ").append(now - undone).append('\n');
        }
        return rows.toString();
    }

    private static void undoOfEach() {
        ROWS.test("Undo of a run: the grams, the minutes, the weeks, the pieces and the colour", FLOOR, """
            order(0, 0, 1, 0) = 0
            run(1, 2) = 0
            run(0, 100) = 7
            account(6) = 1
            undo() = 7
            account(5) = 20
            account(6) = 0
            account(7) = 1
            account(9) = 9980
            account(10) = 20
            account(11) = 2
            account(12) = 0
            letter(0) = 'o'
            stock(0, 0, 0) = 0
            made(0, 3) = 0
            """);
        ROWS.test("Undo of a delivery, and of a week by which an order is late", FLOOR, """
            order(0, 0, 1, 0) = 0
            order(0, 1, 1, 0) = 1
            run(0, 2) = 0
            pause(460) = 1
            letter(0) = 'd'
            letter(1) = 'l'
            undo() = 7
            letter(0) = 'o'
            letter(1) = 'o'
            stock(0, 0, 0) = 1
            stock(0, 0, 2) = 0
            orderOf(1, 5) = 0
            pause(459) = 0
            pause(1) = 1
            """);
        ROWS.test("Undo of a load, and of emptying: the minutes for which it had dried", FLOOR, """
            pause(30) = 0
            load(0, 0, 5) = 5005
            dryer(0, 2) = 0
            undo() = 7
            dryer(0, 1) = 5000
            dryer(0, 2) = 30
            empty(0) = 5000
            undo() = 7
            dryer(0, 0) = 0
            dryer(0, 2) = 30
            """);
        ROWS.test("Undo of an added colour, part and family: their numbers are free again", """
            colour(9) = 0
            colour(0) = 1
            part(4) = 0
            part(1) = 1
            family("5 10 0x2 1x1") = 0
            undo() = 4
            familyOf(0, 0) throws Index
            families(0) = 0
            family("6 7 1x8") = 0
            pieces(0, 0) = 0
            pieces(0, 1) = 8
            undo() = 4
            undo() = 3
            made(1, 0) throws Index
            undo() = 2
            undo() = 1
            purge(0, 1) throws Index
            colour(8) = 1
            purge(0, 1) = 3
            """);
        ROWS.test("Undo of an order and of calling off", FLOOR, """
            order(0, 0, 1, 7) = 0
            order(1, 1, 2, 3) = 1
            callOff(0) = 1
            undo() = 7
            orderOf(0, 4) = 0
            undo() = 6
            account(3) = 1
            orderOf(1, 0) throws Index
            order(0, 1, 5, 9) = 1
            orderOf(1, 2) = 5
            """);
        ROWS.test("Undo of a mount and of a setting", FLOOR, """
            family("1 1 0x1") = 1
            mount(1) = 0
            account(5) = 20
            undo() = 7
            account(8) = 0
            account(5) = 10
            set(3, 99) = 10
            undo() = 7
            account(18) = 10
            mount(1) = 0
            account(5) = 20
            """);
    }

    private static void undoThrows() {
        ROWS.test("Promise 35: there is none to undo", """
            undo() throws State
            colour(1) = 0
            undo() = 0
            undo() throws State
            """);
    }

    private static void refusals() {
        ROWS.test("Refusals and faults behind eight changes cost none of these", "pause(1) = 0\n".repeat(9), """
            pause(0) refused 2.0
            program("w5;w0") refused 13.1 2.0
            program("w5;w") fault 4
            mount(0) refused 1.0
            pause(1000) refused 2.0
            program("w5;w6;m0") refused 13.2 1.0
            """, undos(9, 8), "undo() throws State\n");
        ROWS.test("Refusals behind undo cost none of the others", "pause(1) = 0\n".repeat(9), """
            undo() = 7
            program("w5;w0") refused 13.1 2.0
            pause(0) refused 2.0
            """, undos(8, 7), "undo() throws State\n");
    }

    private static void save() {
        ROWS.test("Promise 36: save returns the number of orders", FLOOR, """
            save() = 0
            order(0, 0, 1, 0) = 0
            save() = 1
            order(0, 0, 1, 0) = 1
            callOff(0) = 1
            save() = 2
            """);
        ROWS.test("Promise 36: save of ten orders", FLOOR, "order(0, 0, 1, 0)\n".repeat(10), """
            save() = 10
            restore() = 10
            """);
        ROWS.test("Promise 36: in place of an earlier snapshot", """
            pause(1) = 0
            save() = 0
            pause(2) = 0
            save() = 0
            pause(4) = 0
            restore() = 0
            account(5) = 3
            """);
        ROWS.test("Promise 36: what can be undone stays behind save", """
            pause(1) = 0
            pause(2) = 0
            save() = 0
            account(13) = 2
            undo() = 1
            account(5) = 1
            restore() = 0
            account(5) = 3
            """);
    }

    private static void restore() {
        ROWS.test("Promise 37: restore returns the number of orders that were saved", FLOOR, """
            order(0, 0, 1, 0) = 0
            save() = 1
            order(0, 0, 1, 0) = 1
            restore() = 1
            account(3) = 1
            """);
        ROWS.test("Promise 37: the snapshot is kept", FLOOR, """
            save() = 0
            pause(5) = 0
            restore() = 0
            account(5) = 10
            pause(7) = 0
            restore() = 0
            account(5) = 10
            restore() = 0
            run(0, 4) = 0
            colour(9) = 2
            restore() = 0
            account(0) = 2
            stock(0, 0, 0) = 0
            """);
        ROWS.test("Promise 37: all that can be undone is restored", FLOOR, """
            order(0, 0, 1, 0) = 0
            run(1, 3) = 0
            run(0, 4) = 7
            save() = 1
            colour(9) = 2
            part(9) = 2
            family("9 9 2x9") = 1
            mount(1) = 0
            load(2, 2, 900) = 900
            empty(0) = 4890
            pause(999) = 2
            run(2, 3) = 1
            order(2, 2, 1, 0) = 1
            callOff(1) = 0
            set(0, 60) = 480
            set(2, 5) = 2
            program("w5") = 1
            restore() = 1
            account(0) = 2
            account(1) = 2
            account(2) = 1
            account(3) = 1
            account(4) = 1
            account(5) = 80
            account(6) = 0
            account(7) = 0
            account(8) = 0
            account(9) = 9860
            account(10) = 140
            account(11) = 14
            account(12) = 7
            account(15) = 480
            account(17) = 2
            dryer(0, 1) = 4890
            dryer(2, 0) = -1
            stock(0, 0, 0) = 2
            stock(0, 1, 1) = 2
            stock(1, 0, 1) = 1
            made(0, 3) = 14
            letter(0) = 'o'
            pause(399) = 0
            pause(1) = 1
            letter(0) = 'd'
            """);
        ROWS.test("Promise 37: what came in place of something else goes again", """
            colour(3) = 0
            colour(7) = 1
            part(4) = 0
            part(5) = 1
            family("7 9 0x2 1x3") = 0
            order(1, 1, 3, 6) = 0
            save() = 1
            undo() = 5
            undo() = 4
            undo() = 3
            undo() = 2
            undo() = 1
            colour(1) = 1
            part(2) = 0
            part(9) = 1
            family("8 6 1x5") = 0
            order(0, 0, 2, 1) = 0
            restore() = 1
            purge(1, 0) = 9
            pieces(0, 0) = 2
            familyOf(0, 0) = 7
            familyOf(0, 1) = 9
            orderOf(0, 2) = 3
            orderOf(0, 3) = 6
            set(1, 0) = 60
            load(0, 1, 100) = 100
            mount(0) = 0
            run(1, 2) = 0
            stock(0, 1, 0) = 1
            stock(1, 1, 0) = 1
            stock(1, 1, 1) = 1
            """);
    }

    private static void restoreThrows() {
        ROWS.test("Promise 37: there is no snapshot", """
            restore() throws State
            colour(1) = 0
            restore() throws State
            undo() = 0
            restore() throws State
            save() = 0
            restore() = 0
            """);
    }

    private static void restoreForgets() {
        ROWS.test("Restore forgets what there was before the latest 8", """
            pause(1) = 0
            save() = 0
            pause(2) = 0
            account(13) = 2
            restore() = 0
            account(13) = 0
            undo() throws State
            account(5) = 1
            """);
        ROWS.test("What comes behind restore can be undone", "pause(1) = 0\n".repeat(9), """
            save() = 0
            restore() = 0
            pause(5) = 0
            account(13) = 1
            undo() = 0
            account(5) = 9
            undo() throws State
            """, "pause(1) = 0\n".repeat(9), "account(13) = 8\n", """
            undo() = 7
            undo() = 6
            account(5) = 16
            """);
    }

    private static void whatStays() {
        ROWS.test("The text buffer does not belong to it", """
            append("w5;")
            pause(1) = 0
            undo() = 0
            account(14) = 3
            save() = 0
            append('w') = 4
            restore() = 0
            account(14) = 4
            append('6') = 5
            program() = 2
            account(5) = 11
            restore() = 0
            account(14) = 0
            """);
        ROWS.test("Undo of a family and of a program leaves the text buffer empty", """
            part(1) = 0
            family("1 1 0x1") = 0
            program("w1") = 1
            undo() = 2
            account(14) = 0
            undo() = 1
            account(14) = 0
            """);
        ROWS.test("The fault position does not belong to it", """
            part(1) = 0
            family("1 1 0x1") = 0
            save() = 0
            program("w1;") fault 3
            undo() = 1
            faultPosition() = 3
            restore() = 0
            faultPosition() = 3
            program("w1") = 1
            undo() = 0
            faultPosition() = -1
            """);
        ROWS.test("The reasons with their details do not belong to it", FLOOR, """
            save() = 0
            load(0, 1, 5) refused 6.0
            run(0, 200) = 0
            load(1, 0, 5) refused 6.1
            undo() = 7
            reason(0, false) = 6
            reason(0, true) = 1
            restore() = 0
            reason(0, false) = 6
            reason(0, true) = 1
            """);
    }

    private static void longRuns() {
        MouldFloor x = new MouldFloor();
        for (int call = 1; call < 511; call++) {
            x.pause(999);
        }
        ROWS.due("The 511th call", 999 * 511 / 480 - 999 * 510 / 480, x.pause(999));
        ROWS.due("The 512th call", 999 * 511, x.account(5));
    }

    private static void apart() {
        MouldFloor x = new MouldFloor();
        MouldFloor y = new MouldFloor();
        x.colour(1);
        x.append('w');
        x.append('1');
        x.set(0, 60);
        x.load(0, 0, 5);
        x.save();
        x.program();
        ROWS.due("Two floors have nothing in common: colours", 0, y.account(0));
        ROWS.due("Two floors have nothing in common: minutes", 0, y.account(5));
        ROWS.due("Two floors have nothing in common: grams", 0, y.account(9));
        ROWS.due("Two floors have nothing in common: changes", 0, y.account(13));
        ROWS.due("Two floors have nothing in common: the text", 1, y.append('x'));
        ROWS.due("Two floors have nothing in common: settings", 480, y.account(15));
        y.colour(9);
        y.pause(100);
        y.save();
        x.restore();
        ROWS.due("Two floors have nothing in common: the snapshot", 5, x.account(9));
        ROWS.due("Two floors have nothing in common: the time", 0, x.account(5));
        ROWS.due("Two floors have nothing in common: what can be undone", 1, y.undo());
    }
}
