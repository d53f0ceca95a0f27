/** Texts: promises 2 and 5 to 7, and the paragraph "Texts" of "Terms". */
public final class TextsTest {
    private static final Rows ROWS = new Rows("TextsTest");

    /** Two colours, the parts 0 to 3, and the family 0. */
    private static final String FLOOR = """
        colour(2) = 0
        colour(5) = 1
        part(4) = 0
        part(3) = 1
        part(5) = 2
        part(1) = 3
        family("5 10 0x2 1x1") = 0
        """;
    /** 78 characters, which a command of 2 characters may follow. */
    private static final String LONG = "w1;".repeat(26);

    public static void main(String[] args) {
        append();
        familyTexts();
        familyFaults();
        familyEarly();
        programTexts();
        commandNumbers();
        programFaults();
        programEarly();
        fullBuffer();
        emptiedBuffer();
        faultPosition();
        asAWhole();
        sameAsCalls();
        ROWS.end();
    }

    private static void append() {
        ROWS.test("Promise 2: append returns the new length", """
            append('w') = 1
            append('1') = 2
            append('2') = 3
            account(14) = 3
            program() = 1
            account(5) = 12
            """);
        ROWS.test("Promise 2: the buffer contains 80 characters at most", "append(\"" + "w1;".repeat(26) + "\")", """
            append('w') = 79
            append('5') = 80
            append('5') throws State
            append(' ') throws State
            append(0) throws State
            account(14) = 80
            program() = 27
            account(5) = 31
            append('w') = 1
            """);
        ROWS.test("Promise 2: any character can be appended", """
            append(0) = 1
            append(65535) = 2
            append(127) = 3
            append(255) = 4
            append(256) = 5
            append(55296) = 6
            program() fault 0
            """);
        ROWS.test("Promise 2: append cannot be undone", """
            colour(1) = 0
            append('w') = 1
            account(13) = 1
            undo() = 0
            account(14) = 1
            undo() throws State
            """);
    }

    private static void familyTexts() {
        ROWS.test("A cycle has 1 or 2 digits", FLOOR, """
            family("7 1 0x1") = 1
            familyOf(1, 0) = 7
            family("78 1 0x1") = 2
            familyOf(2, 0) = 78
            family(" 1 0x1") fault 0
            family("789 1 0x1") fault 2
            """);
        ROWS.test("A weight has 1 to 3 digits", FLOOR, """
            family("1 7 0x1") = 1
            familyOf(1, 1) = 7
            family("1 78 0x1") = 2
            familyOf(2, 1) = 78
            family("1 789 0x1") = 3
            familyOf(3, 1) = 789
            family("1  0x1") fault 2
            family("1 7890 0x1") fault 5
            """);
        ROWS.test("A part has one digit", FLOOR, """
            family("1 1 x1") fault 4
            family("1 1 00x1") fault 5
            family("1 1 3x1") = 1
            pieces(1, 3) = 1
            """);
        ROWS.test("A number of pieces has one digit", FLOOR, """
            family("1 1 0x 1x1") fault 6
            family("1 1 0x01") fault 7
            family("1 1 0x7") = 1
            pieces(1, 0) = 7
            """);
        ROWS.test("A family has parts one to three times", FLOOR, """
            family("1 1 2x3") = 1
            family("1 1 2x3 1x4") = 2
            family("1 1 2x3 1x4 3x5") = 3
            familyOf(1, 2) = 1
            familyOf(2, 2) = 2
            familyOf(3, 2) = 3
            """);
        ROWS.test("The blank ahead of a fourth part is a fault", FLOOR, """
            family("1 1 2x3 1x4 3x5 0x1") fault 15
            family("1 1 2x3 1x4 3x5 ") fault 15
            family("12 345 2x3 1x4 3x5 0x1") fault 18
            """);
        ROWS.test("Zeros in front are allowed in a family", FLOOR, """
            family("07 007 0x1") = 1
            familyOf(1, 0) = 7
            familyOf(1, 1) = 7
            family("00 1 0x1") refused 2.0
            family("1 000 0x1") refused 2.0
            family("1 01 0x1") = 2
            familyOf(2, 1) = 1
            """);
    }

    private static void familyFaults() {
        ROWS.test("The fault position of a family is that of its first character that cannot continue it", FLOOR, """
            family("x") fault 0
            family("m0") fault 0
            family("/1 1 0x1") fault 0
            family(":1 1 0x1") fault 0
            family("1x") fault 1
            family("1/1 0x1") fault 1
            family("1: 1 0x1") fault 1
            family("12x1 0x1") fault 2
            family("1 x") fault 2
            family("1  1 0x1") fault 2
            family("1 1x 0x1") fault 3
            family("1 12x") fault 4
            family("1 123x") fault 5
            family("1 1 x1") fault 4
            family("1 1  0x1") fault 4
            family("1 1 0 1") fault 5
            family("1 1 0X1") fault 5
            family("1 1 0xx") fault 6
            family("1 1 0x 1") fault 6
            family("1 1 0x1x") fault 7
            family("1 1 0x1;") fault 7
            family("1 1 0x1  1x1") fault 8
            family("1 1 0x1 x1x1") fault 8
            family("1 1 0x1 1 1") fault 9
            family("1 1 0x1 1xx") fault 10
            family("1 1 0x1 1x1x") fault 11
            family("1 1 0x1 1x1 2x1x") fault 15
            family("1 1 0x1 1x1 2x11") fault 15
            family("-1 1 0x1") fault 0
            family("1 -1 0x1") fault 2
            """);
        ROWS.test("A digit of a text is one of 0 to 9", FLOOR,
            "family(\"\u0661 1 0x1\") fault 0\n",
            "family(\"1 \uff11 0x1\") fault 2\n",
            "family(\"1 1 0x\u0661\") fault 6\n");
        ROWS.test("Of several faults of a family the first one tells", FLOOR, """
            family("1 1 0xx 1 1") fault 6
            family("xx") fault 0
            family("123 1234 0x12") fault 2
            """);
    }

    private static void familyEarly() {
        ROWS.test("The fault position of a family that ends too early is its length", FLOOR, """
            family("") fault 0
            family("1") fault 1
            family("12") fault 2
            family("1 ") fault 2
            family("12 ") fault 3
            family("1 1") fault 3
            family("1 12") fault 4
            family("1 123") fault 5
            family("1 1 ") fault 4
            family("1 1 0") fault 5
            family("1 1 0x") fault 6
            family("1 1 0x1 ") fault 8
            family("1 1 0x1 1") fault 9
            family("1 1 0x1 1x") fault 10
            family("1 1 0x1 1x1 ") fault 12
            family("1 1 0x1 1x1 2") fault 13
            family("1 1 0x1 1x1 2x") fault 14
            """);
    }

    private static void programTexts() {
        ROWS.test("A program has one or more commands with \";\" between each two", FLOOR, """
            program("w1") = 1
            program("w1;w2") = 2
            program("w1;w2;w3") = 3
            account(5) = 10
            program(";") fault 0
            program(";w1") fault 0
            program("w1;") fault 3
            program("w1;;w1") fault 3
            program("w1w1") fault 2
            program("w1 w1") fault 2
            program("w1,w1") fault 2
            """);
        ROWS.test("\"m\" and a family mounts it", FLOOR, """
            program("m0") = 1
            account(8) = 0
            account(5) = 10
            program("m0") refused 13.0 4.0
            """);
        ROWS.test("\"r\", a colour, \"x\" and a number runs so many shots", FLOOR, """
            set(1, 0) = 60
            mount(0) = 0
            load(0, 1, 1000) = 1000
            program("r1x3") = 1
            account(7) = 1
            account(11) = 3
            account(5) = 25
            """);
        ROWS.test("\"w\" and a number waits so many minutes", FLOOR, """
            program("w123") = 1
            account(5) = 123
            """);
        ROWS.test("\"l\", a dryer, a colour, \"g\" and a number loads so many grams", FLOOR, """
            program("l21g12345") = 1
            dryer(2, 0) = 1
            dryer(2, 1) = 12345
            """);
        ROWS.test("Zeros in front are allowed in a program", FLOOR, """
            program("w001;w02") = 2
            account(5) = 3
            program("l20g00007;l20g0001") = 2
            dryer(2, 1) = 8
            program("m0;l00g00050;w060;r0x005") = 4
            account(11) = 5
            dryer(0, 1) = 0
            """);
    }

    private static void commandNumbers() {
        ROWS.test("A family of a program is one digit", FLOOR, """
            program("m") fault 1
            program("m00") fault 2
            program("m01") fault 2
            program("m1") refused 13.0 1.0
            program("m9") refused 13.0 1.0
            program("m0") = 1
            """);
        ROWS.test("A colour of a program is one digit", FLOOR, """
            program("rx1") fault 1
            program("r00x1") fault 2
            program("r2x1") refused 13.0 1.0
            program("r9x1") refused 13.0 1.0
            program("l0g1") fault 2
            program("l000g1") fault 3
            program("l02g1") refused 13.0 1.0
            program("l09g1") refused 13.0 1.0
            program("l01g1") = 1
            """);
        ROWS.test("A dryer of a program is one digit", FLOOR, """
            program("lg1") fault 1
            program("l30g1") refused 13.0 1.0
            program("l90g1") refused 13.0 1.0
            program("l20g1") = 1
            """);
        ROWS.test("A number of shots has 1 to 3 digits", FLOOR, """
            set(1, 0) = 60
            mount(0) = 0
            load(0, 0, 10000) = 10000
            program("r0x") fault 3
            program("r0x1") = 1
            program("r0x23") = 1
            program("r0x145") = 1
            account(11) = 169
            program("r0x1450") fault 6
            program("r0x0001") fault 6
            """);
        ROWS.test("A number of minutes has 1 to 3 digits", FLOOR, """
            program("w") fault 1
            program("w1") = 1
            program("w23") = 1
            program("w145") = 1
            account(5) = 169
            program("w1450") fault 4
            program("w0001") fault 4
            """);
        ROWS.test("A number of grams has 1 to 5 digits", FLOOR, """
            program("l00g") fault 4
            program("l00g1") = 1
            program("l00g23") = 1
            program("l00g145") = 1
            program("l00g1006") = 1
            program("l00g10007") = 1
            dryer(0, 1) = 11182
            program("l00g100000") fault 9
            program("l00g000001") fault 9
            """);
        ROWS.test("The numbers of a program have the bounds of the calls", FLOOR, """
            set(1, 0) = 60
            mount(0) = 0
            program("l00g0") refused 13.0 2.0
            program("l00g1;l01g99999") refused 13.1 6.0
            program("l00g99999") = 1
            program("w0") refused 13.0 2.0
            program("w000") refused 13.0 2.0
            program("w1;w999") = 2
            program("r0x0") refused 13.0 2.0
            program("r0x201") refused 13.0 2.0
            program("r0x999") refused 13.0 2.0
            program("r0x1;r0x200") = 2
            account(11) = 201
            """);
    }

    private static void programFaults() {
        ROWS.test("The fault position of a program is that of its first character that cannot continue it", FLOOR, """
            program("x") fault 0
            program("M0") fault 0
            program("0") fault 0
            program(" w1") fault 0
            program("5 10 0x2") fault 0
            program("e0") fault 0
            program("mm") fault 1
            program("m/") fault 1
            program("m:") fault 1
            program("m ") fault 1
            program("m;") fault 1
            program("m0m") fault 2
            program("m0 ") fault 2
            program("r;") fault 1
            program("r0g1") fault 2
            program("r0;") fault 2
            program("r0X1") fault 2
            program("r0xx") fault 3
            program("r0x;") fault 3
            program("r0x1x") fault 4
            program("r0x12m") fault 5
            program("w;") fault 1
            program("w-1") fault 1
            program("w1x") fault 2
            program("w12x") fault 3
            program("l;") fault 1
            program("l0;") fault 2
            program("l00;") fault 3
            program("l00x1") fault 3
            program("l00G1") fault 3
            program("l00g;") fault 4
            program("l00gg") fault 4
            program("l00g1g") fault 5
            program("m0;e") fault 3
            program("m0;;") fault 3
            program("m0; m0") fault 3
            program("w1;w2;x") fault 6
            """);
        ROWS.test("A digit of a program is one of 0 to 9", FLOOR,
            "program(\"m\u0660\") fault 1\n",
            "program(\"w1\uff11\") fault 2\n");
        ROWS.test("Of several faults of a program the first one tells", FLOOR, """
            program("w1;wx;wx") fault 4
            program("w;w;w") fault 1
            """);
        ROWS.test("A fault is looked at ahead of what the commands are refused for", FLOOR, """
            program("w0;m9;x") fault 6
            program("w0;m9;w") fault 7
            """);
    }

    private static void programEarly() {
        ROWS.test("The fault position of a program that ends too early is its length", FLOOR, """
            program("") fault 0
            program("m") fault 1
            program("r") fault 1
            program("r0") fault 2
            program("r0x") fault 3
            program("w") fault 1
            program("l") fault 1
            program("l0") fault 2
            program("l00") fault 3
            program("l00g") fault 4
            program("m0;") fault 3
            program("r0x1;") fault 5
            program("r0x123;") fault 7
            program("w1;") fault 3
            program("w123;") fault 5
            program("l00g1;") fault 6
            program("l00g12345;") fault 10
            program("m0;r0x1;w1;l") fault 12
            """);
    }

    private static void fullBuffer() {
        ROWS.test("A text of 80 characters is read to its end", "program(\"" + LONG + "w7\") = 27", """
            account(5) = 33
            """);
        ROWS.test("The last of 80 characters may be the fault", "program(\"" + LONG + "wx\") fault 79");
        ROWS.test("A text of 79 characters may end too early", "program(\"" + LONG + "w\") fault 79");
        ROWS.test("A text of 80 characters may end too early",
            "program(\"w12;" + "w1;".repeat(25) + "w\") fault 80\n", "program(\"w123;" + "w1;".repeat(25) + "\") fault 80\n");
        ROWS.test("A text of 80 digits", "program(\"" + "1".repeat(80) + "\") fault 0\n", "family(\"" + "1".repeat(80)
            + "\") fault 2\n");
        ROWS.test("The last of 27 commands may be refused", "program(\"" + LONG + "w0\") refused 13.26 2.0");
        ROWS.test("The first of 27 commands may be refused", "program(\"m0;" + "w1;".repeat(25) + "w1\") refused 13.0 1.0");
    }

    private static void emptiedBuffer() {
        ROWS.test("Promise 5: the buffer is empty behind a family", FLOOR, """
            append("1 1 0x1")
            account(14) = 7
            family() = 1
            account(14) = 0
            family() fault 0
            """);
        ROWS.test("Promise 5: the buffer is empty behind a fault of a family", FLOOR, """
            append("1 1 0")
            family() fault 5
            account(14) = 0
            family("1 1 0x1") = 1
            """);
        ROWS.test("Promise 5: the buffer is empty behind a family that is refused", FLOOR, """
            append("1 1 9x1")
            family() refused 1.0
            account(14) = 0
            family("1 1 0x1") = 1
            """);
        ROWS.test("Promise 6: the buffer is empty behind a program", FLOOR, """
            append("w1;w1")
            account(14) = 5
            program() = 2
            account(14) = 0
            program() fault 0
            """);
        ROWS.test("Promise 6: the buffer is empty behind a fault of a program", FLOOR, """
            append("w1;w")
            program() fault 4
            account(14) = 0
            program("w1") = 1
            """);
        ROWS.test("Promise 6: the buffer is empty behind a program that is refused", FLOOR, """
            append("w1;w0")
            program() refused 13.1 2.0
            account(14) = 0
            program("w1") = 1
            """);
        ROWS.test("What a longer text left in the buffer is not read again", FLOOR, """
            program("w12;w34") = 2
            program("w5") = 1
            account(5) = 51
            program("w") fault 1
            program("w1;") fault 3
            family("1 1 0x1 1x1 2x1") = 1
            family("1 1 3x1") = 2
            familyOf(2, 2) = 1
            family("1 1") fault 3
            """);
    }

    private static void faultPosition() {
        ROWS.test("Promise 7: -1 if there was no call of family or program", FLOOR.replaceAll("family.*", ""), """
            faultPosition() = -1
            append('x') = 1
            faultPosition() = -1
            """);
        ROWS.test("Promise 7: -1 if the text of a family had no fault", FLOOR, """
            family("x") fault 0
            faultPosition() = 0
            family("1 1 0x1") = 1
            faultPosition() = -1
            """);
        ROWS.test("Promise 7: -1 if the text of a program had no fault", FLOOR, """
            program("w1;") fault 3
            faultPosition() = 3
            program("w1") = 1
            faultPosition() = -1
            """);
        ROWS.test("Promise 7: -1 if the text had no fault, but was refused", FLOOR, """
            program("w1;") fault 3
            program("w0") refused 13.0 2.0
            faultPosition() = -1
            family("1 1 0x1 ") fault 8
            family("0 1 0x1") refused 2.0
            faultPosition() = -1
            """);
        ROWS.test("Promise 7: the fault is of the latest call of family or program", FLOOR, """
            family("1 1 0x1 ") fault 8
            faultPosition() = 8
            program("w1x") fault 2
            faultPosition() = 2
            family("1") fault 1
            faultPosition() = 1
            """);
        ROWS.test("Promise 7: the fault stays behind all other calls", FLOOR, """
            program("w1;") fault 3
            append('w') = 1
            faultPosition() = 3
            colour(1) = 2
            colour(10) refused 2.0
            mount(0) = 0
            load(0, 0, 5) = 5
            pause(1) = 0
            run(0, 1) refused 10.0 11.59
            order(0, 0, 1, 0) = 0
            callOff(0) = 0
            set(0, 60) = 480
            undo() = 7
            save() = 1
            restore() = 1
            undo() throws State
            account(19) throws Argument
            faultPosition() = 3
            """);
    }

    private static void asAWhole() {
        String rows = FLOOR + """
            mount(0) = 0
            load(0, 0, 5000) = 5000
            load(1, 1, 5000) = 5000
            pause(60) = 0
            run(0, 2) = 0
            order(0, 0, 1, 0) = 0
            order(0, 1, 1, 0) = 1
            """;
        ROWS.test("A program is not carried out in part: a mount and a run", rows, """
            program("r1x3;r0x2;m0") refused 13.2 4.0
            program("r1x3;r0x2;w0") refused 13.2 2.0
            account(7) = 0
            account(11) = 2
            """);
        ROWS.test("A program is not carried out in part: weeks, and the orders in them", rows, """
            program("w400;r1x9;w999;w0") refused 13.3 2.0
            account(6) = 0
            letter(0) = 'o'
            letter(1) = 'o'
            stock(0, 0, 0) = 1
            stock(0, 0, 2) = 0
            """);
        ROWS.test("A program is not carried out in part: dryers", rows, """
            program("l20g5;l00g5;l00g99999") refused 13.2 7.0
            program("l20g5;r1x500;l00g99999") refused 13.1 2.0
            dryer(2, 0) = -1
            dryer(0, 2) = 70
            """);
        ROWS.test("A program that is carried out is one change", rows, """
            account(13) = 8
            program("r1x3;r0x2;w9;l20g5") = 4
            account(13) = 8
            account(5) = 154
            undo() = 7
            account(5) = 80
            dryer(2, 0) = -1
            """);
        ROWS.test("Each command sees what those before it have done", FLOOR, """
            program("m0;r0x1") refused 13.1 10.0
            program("m0;l00g10;r0x1") refused 13.2 10.0 11.60
            program("m0;l00g10;w59;r0x1") refused 13.3 10.0 11.1
            program("m0;l00g10;w60;r0x2") refused 13.3 10.0 12.10
            program("m0;l00g10;w60;r0x1;r0x1") refused 13.4 10.0
            program("m0;l00g10;w60;r0x1;l01g7") = 5
            dryer(0, 0) = 1
            dryer(0, 1) = 7
            """);
    }

    private static void sameAsCalls() {
        ROWS.test("A program does what the calls of its commands do", FLOOR, """
            family("1 1 2x9") = 1
            order(0, 0, 1, 0) = 0
            program("m0;l00g500;l10g500;l21g120;w60;r0x5;w425;m1;r0x7;m0;r1x9") = 11
            account(5) = 597
            account(6) = 1
            account(7) = 1
            account(8) = 0
            account(9) = 963
            account(10) = 157
            account(11) = 22
            account(12) = 1
            dryer(2, 0) = 1
            dryer(2, 1) = 20
            letter(0) = 'd'
            """);
    }
}
