/** Colours, parts, families and settings: promises 1, 3 to 5, 15 and 21 to 23, and the paragraphs of "Terms" on them. */
public final class CatalogueTest {
    private static final Rows ROWS = new Rows("CatalogueTest");

    /** The parts 0 to 3 of 4, 3, 5 and 1 pieces a crate. */
    private static final String PARTS = """
        part(4) = 0
        part(3) = 1
        part(5) = 2
        part(1) = 3
        """;

    public static void main(String[] args) {
        newObject();
        newObjectRefuses();
        colours();
        parts();
        families();
        familyNumbers();
        familyParts();
        familyRefusals();
        mountedFamily();
        settings();
        settingsAtTheirEdges();
        askedFamilies();
        ROWS.end();
    }

    private static void newObject() {
        ROWS.test("Promise 1: a floor without colours, parts, families and orders", """
            account(0) = 0
            account(1) = 0
            account(2) = 0
            account(3) = 0
            account(4) = 0
            """);
        ROWS.test("Now is a number of minutes, at first 0; the first week is the week 0", """
            account(5) = 0
            account(6) = 0
            """);
        ROWS.test("The machine has the colour of its latest run, at first none", "account(7) = -1");
        ROWS.test("At most one family is mounted, at first none", "account(8) = -1");
        ROWS.test("A new floor has taken, shot, changed and appended nothing", """
            account(9) = 0
            account(10) = 0
            account(11) = 0
            account(12) = 0
            account(13) = 0
            account(14) = 0
            """);
        ROWS.test("The first values of the settings are 480, 60, 2 and 10", """
            account(15) = 480
            account(16) = 60
            account(17) = 2
            account(18) = 10
            """);
        ROWS.test("There are the dryers 0 to 2, at first empty", """
            dryer(0, 0) = -1
            dryer(0, 1) = 0
            dryer(0, 2) = 0
            dryer(0, 3) = 0
            dryer(1, 0) = -1
            dryer(1, 1) = 0
            dryer(1, 2) = 0
            dryer(1, 3) = 0
            dryer(2, 0) = -1
            dryer(2, 1) = 0
            dryer(2, 2) = 0
            dryer(2, 3) = 0
            """);
        ROWS.test("Of a new floor nothing can be asked that needs what it does not have", """
            faultPosition() = -1
            purge(0, 0) throws Index
            minutes(0, 1) throws Index
            best(0) = 0
            bestAgain(0) = 0
            bestColour(0, 0) throws Element
            best(1) throws Argument
            bestAgain(1) throws Argument
            bestColour(1, 0) throws Argument
            familyOf(0, 0) throws Index
            pieces(0, 0) throws Index
            families(0) throws Index
            stock(0, 0, 0) throws Index
            made(0, 0) throws Index
            orderOf(0, 0) throws Index
            shots(0) throws Index
            letter(0) throws Index
            due(0) = 0
            due(max) = 0
            reason(0, false) throws Element
            reason(0, true) throws Element
            scrap() throws Arithmetic
            lateness() throws Arithmetic
            undo() throws State
            restore() throws State
            """);
    }

    private static void newObjectRefuses() {
        ROWS.test("A new floor refuses what needs what it does not have", """
            mount(0) refused 1.0
            load(0, 0, 1) refused 1.0
            empty(0) refused 8.0
            run(0, 1) refused 1.0
            order(0, 0, 1, 0) refused 1.0
            callOff(0) refused 1.0
            family("1 1 0x1") refused 1.0
            program("m0") refused 13.0 1.0
            program("r0x1") refused 13.0 1.0
            program("l00g1") refused 13.0 1.0
            """);
        ROWS.test("A new floor has an empty text buffer", """
            family() fault 0
            program() fault 0
            """);
        ROWS.test("A new floor can wait, be set, be saved and be restored", """
            pause(1) = 0
            set(2, 3) = 2
            save() = 0
            restore() = 0
            program("w1") = 1
            """);
    }

    private static void colours() {
        ROWS.test("At most 6 colours are kept, numbered from 0 in the order in which they came", """
            colour(3) = 0
            colour(3) = 1
            colour(9) = 2
            colour(0) = 3
            account(0) = 4
            colour(7) = 4
            colour(5) = 5
            account(0) = 6
            colour(5) refused 3.0
            colour(0) refused 3.0
            colour(9) refused 3.0
            purge(2, 3) = 19
            purge(4, 5) = 5
            undo() = 5
            colour(6) = 5
            purge(4, 5) = 3
            colour(6) refused 3.0
            """);
        ROWS.test("A shade is 0 at least", """
            colour(-1) refused 2.0
            colour(min) refused 2.0
            colour(0) = 0
            colour(1) = 1
            purge(1, 0) = 3
            """);
        ROWS.test("A shade is 9 at most", """
            colour(10) refused 2.0
            colour(max) refused 2.0
            colour(9) = 0
            colour(8) = 1
            purge(0, 1) = 3
            """);
        ROWS.test("0 is light, and 9 is dark", """
            colour(0) = 0
            colour(9) = 1
            purge(1, 0) = 19
            purge(0, 1) = 1
            """);
        ROWS.test("Promise 3: the reason 2 is looked at ahead of 3", "colour(1)\n".repeat(6), """
            colour(10) refused 2.0
            colour(-1) refused 2.0
            colour(1) refused 3.0
            """);
    }

    private static void parts() {
        ROWS.test("At most 8 parts are kept, numbered likewise", """
            part(3) = 0
            part(50) = 1
            part(1) = 2
            part(1) = 3
            part(7) = 4
            part(8) = 5
            account(1) = 6
            part(2) = 6
            part(9) = 7
            account(1) = 8
            part(9) refused 3.0
            part(1) refused 3.0
            part(50) refused 3.0
            undo() = 7
            part(4) = 7
            part(4) refused 3.0
            """);
        ROWS.test("A crate size is 1 at least", """
            part(0) refused 2.0
            part(-1) refused 2.0
            part(min) refused 2.0
            part(1) = 0
            """);
        ROWS.test("A crate size is 50 at most", """
            part(51) refused 2.0
            part(max) refused 2.0
            part(50) = 0
            """);
        ROWS.test("A crate of the size 1 holds one piece", """
            part(1) = 0
            colour(0) = 0
            set(1, 0) = 60
            family("1 1 0x1") = 0
            mount(0) = 0
            load(0, 0, 100) = 100
            run(0, 1) = 0
            stock(0, 0, 0) = 1
            stock(0, 0, 1) = 0
            run(0, 7) = 0
            stock(0, 0, 0) = 8
            stock(0, 0, 1) = 0
            """);
        ROWS.test("A crate of the size 50 holds fifty pieces", """
            part(50) = 0
            colour(0) = 0
            set(1, 0) = 60
            family("1 1 0x7") = 0
            mount(0) = 0
            load(0, 0, 100) = 100
            run(0, 7) = 0
            stock(0, 0, 0) = 0
            stock(0, 0, 1) = 49
            run(0, 1) = 0
            stock(0, 0, 0) = 1
            stock(0, 0, 1) = 6
            """);
        ROWS.test("Promise 4: the reason 2 is looked at ahead of 3", "part(1)\n".repeat(8), """
            part(0) refused 2.0
            part(51) refused 2.0
            part(1) refused 3.0
            """);
    }

    private static void families() {
        ROWS.test("At most 6 families are kept, numbered likewise", PARTS, """
            family("5 10 0x2 1x1") = 0
            family("1 2 3x4") = 1
            family("1 2 3x4") = 2
            family("6 7 2x3 1x4 0x5") = 3
            family("9 9 1x9") = 4
            account(2) = 5
            family("8 8 0x8") = 5
            account(2) = 6
            familyOf(5, 0) = 8
            familyOf(0, 0) = 5
            family("8 8 0x8") refused 3.0
            family("1 1 0x1") refused 3.0
            undo() = 7
            family("3 4 1x2") = 5
            familyOf(5, 0) = 3
            pieces(5, 0) = 0
            family("3 4 1x2") refused 3.0
            """);
    }

    private static void familyNumbers() {
        ROWS.test("A cycle is 1 at least", PARTS, """
            family("0 1 0x1") refused 2.0
            family("00 1 0x1") refused 2.0
            family("1 1 0x1") = 0
            familyOf(0, 0) = 1
            family("01 1 0x1") = 1
            familyOf(1, 0) = 1
            """);
        ROWS.test("A cycle is 99 at most", PARTS, """
            family("99 1 0x1") = 0
            familyOf(0, 0) = 99
            family("100 1 0x1") fault 2
            """);
        ROWS.test("A weight is 1 at least", PARTS, """
            family("1 0 0x1") refused 2.0
            family("1 00 0x1") refused 2.0
            family("1 000 0x1") refused 2.0
            family("1 1 0x1") = 0
            familyOf(0, 1) = 1
            family("1 001 0x1") = 1
            familyOf(1, 1) = 1
            """);
        ROWS.test("A weight is 999 at most", PARTS, """
            family("1 999 0x1") = 0
            familyOf(0, 1) = 999
            family("1 1000 0x1") fault 5
            """);
        ROWS.test("A number of pieces is 1 at least, of each part", PARTS, """
            family("1 1 0x0") refused 2.0
            family("1 1 0x0 1x1 2x1") refused 2.0
            family("1 1 0x1 1x0 2x1") refused 2.0
            family("1 1 0x1 1x1 2x0") refused 2.0
            family("1 1 0x1 1x1 2x1") = 0
            familyOf(0, 3) = 3
            """);
        ROWS.test("A number of pieces is 9 at most", PARTS, """
            family("1 1 0x9 1x9 2x9") = 0
            familyOf(0, 3) = 27
            pieces(0, 0) = 9
            pieces(0, 1) = 9
            pieces(0, 2) = 9
            family("1 1 0x10") fault 7
            """);
    }

    private static void familyParts() {
        ROWS.test("A family has 1 part at least", PARTS, """
            family("1 1") fault 3
            family("1 1 ") fault 4
            family("1 1 3x2") = 0
            familyOf(0, 2) = 1
            """);
        ROWS.test("A family has 3 parts at most", PARTS, """
            family("1 1 3x2 0x1") = 0
            familyOf(0, 2) = 2
            family("1 1 3x2 0x1 2x5") = 1
            familyOf(1, 2) = 3
            family("1 1 3x2 0x1 2x5 1x1") fault 15
            """);
        ROWS.test("The parts of a family are different ones", PARTS, """
            family("1 1 2x1 2x1") refused 14.2
            family("1 1 0x1 0x2") refused 14.0
            family("1 1 1x1 1x2 3x1") refused 14.1
            family("1 1 3x1 1x2 3x1") refused 14.3
            family("1 1 1x1 3x2 3x1") refused 14.3
            family("1 1 3x1 3x1 3x1") refused 14.3
            family("1 1 3x1 1x1 2x1") = 0
            """);
        ROWS.test("The parts of a family are there", """
            family("1 1 0x1") refused 1.0
            part(4) = 0
            family("1 1 1x1") refused 1.0
            family("1 1 9x1") refused 1.0
            family("1 1 0x1 1x1") refused 1.0
            family("1 1 1x1 0x1") refused 1.0
            family("1 1 0x1") = 0
            """, "part(2)\n".repeat(7), """
            family("1 1 8x1") refused 1.0
            family("1 1 9x1") refused 1.0
            family("1 1 0x1 7x1 8x1") refused 1.0
            family("1 1 0x1 8x1 7x1") refused 1.0
            family("1 1 0x1 7x3 6x1") = 1
            pieces(1, 7) = 3
            """);
    }

    private static void familyRefusals() {
        ROWS.test("Promise 5: the reason 2 is looked at ahead of 1", PARTS, """
            family("0 1 4x1") refused 2.0
            family("1 0 4x1") refused 2.0
            family("1 1 4x0") refused 2.0
            family("1 1 4x1 0x0") refused 2.0
            """);
        ROWS.test("Promise 5: the reason 2 is looked at ahead of 14", PARTS, """
            family("0 1 1x1 1x1") refused 2.0
            family("1 0 1x1 1x1") refused 2.0
            family("1 1 1x1 1x0") refused 2.0
            family("1 1 1x1 1x1 0x0") refused 2.0
            """);
        ROWS.test("Promise 5: the reason 1 is looked at ahead of 14", PARTS, """
            family("1 1 4x1 4x1") refused 1.0
            family("1 1 1x1 1x1 4x1") refused 1.0
            """);
        ROWS.test("Promise 5: the reasons 2, 1 and 14 are looked at ahead of 3", PARTS,
            "family(\"1 1 0x1\")\n".repeat(6), """
            family("1 0 0x1") refused 2.0
            family("1 1 4x1") refused 1.0
            family("1 1 2x1 2x1") refused 14.2
            family("1 1 2x1") refused 3.0
            """);
        ROWS.test("Promise 5: a fault is looked at ahead of the reasons", PARTS,
            "family(\"1 1 0x1\")\n".repeat(6), """
            colour(10) refused 2.0
            family("0 1 4x1 ") fault 8
            family("1 0 2x0 2x0 2x0 ") fault 15
            """);
    }

    private static void mountedFamily() {
        ROWS.test("At most one family is mounted", PARTS, """
            family("5 10 0x2 1x1") = 0
            family("1 2 3x4") = 1
            familyOf(0, 4) = 0
            familyOf(1, 4) = 0
            mount(1) = 0
            account(8) = 1
            familyOf(0, 4) = 0
            familyOf(1, 4) = 1
            mount(0) = 0
            account(8) = 0
            familyOf(0, 4) = 1
            familyOf(1, 4) = 0
            """);
    }

    private static void settings() {
        ROWS.test("The length of a week is 60 to 9999", """
            set(0, 59) refused 2.0
            set(0, 60) = 480
            account(15) = 60
            set(0, 10000) refused 2.0
            set(0, 9999) = 60
            account(15) = 9999
            set(0, 0) refused 2.0
            set(0, min) refused 2.0
            set(0, max) refused 2.0
            """);
        ROWS.test("The drying time is 0 to 999", """
            set(1, -1) refused 2.0
            set(1, 0) = 60
            account(16) = 0
            set(1, 1000) refused 2.0
            set(1, 999) = 0
            account(16) = 999
            set(1, min) refused 2.0
            set(1, max) refused 2.0
            """);
        ROWS.test("The purge factor is 0 to 5", """
            set(2, -1) refused 2.0
            set(2, 0) = 2
            account(17) = 0
            set(2, 6) refused 2.0
            set(2, 5) = 0
            account(17) = 5
            set(2, min) refused 2.0
            set(2, max) refused 2.0
            """);
        ROWS.test("The minutes to mount a family are 0 to 99", """
            set(3, -1) refused 2.0
            set(3, 0) = 10
            account(18) = 0
            set(3, 100) refused 2.0
            set(3, 99) = 0
            account(18) = 99
            set(3, min) refused 2.0
            set(3, max) refused 2.0
            """);
        ROWS.test("Promise 15: there are the settings 0 to 3", """
            set(-1, 60) refused 2.0
            set(4, 60) refused 2.0
            set(min, 60) refused 2.0
            set(max, 60) refused 2.0
            set(4, -1) refused 2.0
            set(0, 99) = 480
            set(3, 98) = 10
            """);
        ROWS.test("Promise 15: set returns the value before", """
            set(1, 5) = 60
            set(1, 7) = 5
            set(1, 7) = 7
            undo() = 2
            set(1, 8) = 7
            """);
    }

    private static void settingsAtTheirEdges() {
        ROWS.test("A week of 60 minutes", """
            set(0, 60) = 480
            pause(59) = 0
            pause(1) = 1
            pause(60) = 1
            """);
        ROWS.test("A week of 9999 minutes", "set(0, 9999) = 480", "\npause(999) = 0".repeat(10), """
            pause(8) = 0
            pause(1) = 1
            account(5) = 9999
            """);
        ROWS.test("A drying time of 0 minutes", """
            colour(1) = 0
            set(1, 0) = 60
            load(0, 0, 5) = 5
            dryer(0, 3) = 0
            dryer(0, 2) = 0
            """);
        ROWS.test("A drying time of 999 minutes", """
            colour(1) = 0
            set(1, 999) = 60
            load(0, 0, 5) = 5
            dryer(0, 3) = 999
            pause(998) = 2
            dryer(0, 3) = 1
            pause(1) = 0
            dryer(0, 3) = 0
            pause(1) = 0
            dryer(0, 3) = 0
            """);
        ROWS.test("Mounting takes 0 to 99 minutes", PARTS, """
            family("5 10 0x2 1x1") = 0
            family("1 2 3x4") = 1
            set(3, 0) = 10
            mount(0) = 0
            account(5) = 0
            set(3, 99) = 0
            mount(1) = 0
            account(5) = 99
            """);
    }

    private static void askedFamilies() {
        String rows = PARTS + """
            family("5 10 0x2 1x1") = 0
            family("99 999 3x9 0x8 1x7") = 1
            mount(1) = 0
            """;
        ROWS.test("Promise 21: familyOf", rows, """
            familyOf(0, 0) = 5
            familyOf(0, 1) = 10
            familyOf(0, 2) = 2
            familyOf(0, 3) = 3
            familyOf(0, 4) = 0
            familyOf(1, 0) = 99
            familyOf(1, 1) = 999
            familyOf(1, 2) = 3
            familyOf(1, 3) = 24
            familyOf(1, 4) = 1
            """);
        ROWS.test("Promise 21: there is no such family", rows, """
            familyOf(-1, 0) throws Index
            familyOf(2, 0) throws Index
            familyOf(6, 0) throws Index
            familyOf(min, 0) throws Index
            familyOf(max, 0) throws Index
            """);
        ROWS.test("Promise 21: what is not from 0 to 4", rows, """
            familyOf(0, -1) throws Argument
            familyOf(1, 5) throws Argument
            familyOf(0, min) throws Argument
            familyOf(0, max) throws Argument
            """);
        ROWS.test("Promise 21: the family is looked at ahead of what", rows, """
            familyOf(2, 5) throws Index
            familyOf(-1, -1) throws Index
            """);
        ROWS.test("Promise 22: pieces, 0 if it is none of its parts", rows, """
            pieces(0, 0) = 2
            pieces(0, 1) = 1
            pieces(0, 2) = 0
            pieces(0, 3) = 0
            pieces(1, 0) = 8
            pieces(1, 1) = 7
            pieces(1, 2) = 0
            pieces(1, 3) = 9
            """);
        ROWS.test("Promise 22: there is no such family", rows, """
            pieces(-1, 0) throws Index
            pieces(2, 0) throws Index
            pieces(min, 0) throws Index
            pieces(max, 0) throws Index
            """);
        ROWS.test("Promise 22: there is no such part", rows, """
            pieces(0, -1) throws Index
            pieces(0, 4) throws Index
            pieces(1, 8) throws Index
            pieces(0, min) throws Index
            pieces(0, max) throws Index
            """);
        ROWS.test("Promise 23: families, bit k for the family k", rows, """
            families(2) = 0
            families(3) = 2
            families(0) = 3
            family("1 1 2x1") = 2
            family("1 1 2x1") = 3
            family("1 1 2x1") = 4
            families(2) = 28
            family("1 1 0x1") = 5
            families(0) = 35
            families(1) = 3
            """);
        ROWS.test("Promise 23: there is no such part", rows, """
            families(-1) throws Index
            families(4) throws Index
            families(8) throws Index
            families(min) throws Index
            families(max) throws Index
            """);
    }
}
