/** Promises 1 to 7: a new object, append, colour, part, family, program and faultPosition. */
public final class AddingTest {
    private static final Checks CHECKS = new Checks("AddingTest");

    public static void main(String[] args) {
        newObject();
        append();
        colour();
        part();
        family();
        familyRefusals();
        familyFaults();
        program();
        programRefusals();
        programFaults();
        faultPosition();
        CHECKS.end();
    }

    private static void newObject() {
        MouldFloor x = new MouldFloor();
        int[] want = {0, 0, 0, 0, 0, 0, 0, -1, -1, 0, 0, 0, 0, 0, 0, 480, 60, 2, 10};
        for (int what = 0; what < want.length; what++) {
            int number = what;
            CHECKS.due("account " + what + " of a new floor", want[what], () -> x.account(number));
        }
        for (int dryer = 0; dryer < 3; dryer++) {
            int number = dryer;
            CHECKS.due("a new dryer's colour", -1, () -> x.dryer(number, 0));
            CHECKS.due("a new dryer's grams", 0, () -> x.dryer(number, 1));
            CHECKS.due("a new dryer's minutes", 0, () -> x.dryer(number, 2));
            CHECKS.due("a new dryer's lacking minutes", 0, () -> x.dryer(number, 3));
        }
        CHECKS.due("reasons of a new floor", "", () -> Floors.reasonsOf(x));
        CHECKS.due("undo of a new floor", Checks.STATE, () -> x.undo());
        CHECKS.due("restore of a new floor", Checks.STATE, () -> x.restore());
        CHECKS.due("due of a new floor", 0, () -> x.due(99));
    }

    private static void append() {
        MouldFloor x = new MouldFloor();
        for (int length = 1; length <= 80; length++) {
            CHECKS.due("append", length, () -> x.append((char) 300));
        }
        CHECKS.fails("the 81st append", Checks.STATE, x, () -> x.append('m'));
        CHECKS.due("the characters", 80, () -> x.account(14));
        CHECKS.due("changes by append", 0, () -> x.account(13));
        CHECKS.due("a text of no digits", Checks.ARGUMENT, () -> x.program());
        CHECKS.due("its fault", 0, () -> x.faultPosition());
        CHECKS.due("append to the emptied buffer", 1, () -> x.append('m'));
    }

    private static void colour() {
        MouldFloor x = new MouldFloor();
        CHECKS.refused("colour -1", "2.0", x, () -> x.colour(-1));
        CHECKS.refused("colour 10", "2.0", x, () -> x.colour(10));
        int[] shades = {0, 9, 5, 5, 1, 8};
        for (int number = 0; number < 6; number++) {
            int place = number;
            CHECKS.due("colour", number, () -> x.colour(shades[place]));
            CHECKS.due("the colours", number + 1, () -> x.account(0));
        }
        CHECKS.refused("a seventh colour", "3.0", x, () -> x.colour(4));
        CHECKS.refused("a seventh colour out of range", "2.0", x, () -> x.colour(10));
        CHECKS.due("changes by colours", 6, () -> x.account(13));
        CHECKS.due("the purge by the shades", 1 + 9 * 2, () -> x.purge(1, 0));
    }

    private static void part() {
        MouldFloor x = new MouldFloor();
        CHECKS.refused("part 0", "2.0", x, () -> x.part(0));
        CHECKS.refused("part 51", "2.0", x, () -> x.part(51));
        CHECKS.refused("part of the least size", "2.0", x, () -> x.part(Integer.MIN_VALUE));
        int[] sizes = {1, 50, 2, 3, 4, 5, 6, 7};
        for (int number = 0; number < 8; number++) {
            int place = number;
            CHECKS.due("part", number, () -> x.part(sizes[place]));
            CHECKS.due("the parts", number + 1, () -> x.account(1));
        }
        CHECKS.refused("a ninth part", "3.0", x, () -> x.part(4));
        CHECKS.refused("a ninth part out of range", "2.0", x, () -> x.part(0));
        CHECKS.due("changes by parts", 8, () -> x.account(13));
    }

    private static void family() {
        MouldFloor x = Floors.withShades(1);
        CHECKS.due("family", 0, () -> Floors.family(x, "5 10 0x2 1x1 2x9"));
        CHECKS.due("the buffer behind family", 0, () -> x.account(14));
        CHECKS.due("its cycle", 5, () -> x.familyOf(0, 0));
        CHECKS.due("its weight", 10, () -> x.familyOf(0, 1));
        CHECKS.due("its parts", 3, () -> x.familyOf(0, 2));
        CHECKS.due("its pieces", 12, () -> x.familyOf(0, 3));
        CHECKS.due("pieces of the part 2", 9, () -> x.pieces(0, 2));
        CHECKS.due("zeros in front", 1, () -> Floors.family(x, "09 001 1x1"));
        CHECKS.due("its cycle", 9, () -> x.familyOf(1, 0));
        CHECKS.due("its weight", 1, () -> x.familyOf(1, 1));
        CHECKS.due("the most", 2, () -> Floors.family(x, "99 999 2x9 0x9"));
        CHECKS.due("its cycle", 99, () -> x.familyOf(2, 0));
        CHECKS.due("its weight", 999, () -> x.familyOf(2, 1));
        CHECKS.due("its parts", 2, () -> x.familyOf(2, 2));
        CHECKS.due("pieces of the part that it does not have", 0, () -> x.pieces(2, 1));
        CHECKS.due("changes by families", 7, () -> x.account(13));
        MouldFloor y = new MouldFloor();
        y.part(1);
        CHECKS.due("a family of the only part", 0, () -> Floors.family(y, "1 1 0x1"));
    }

    private static void familyRefusals() {
        MouldFloor x = Floors.withShades(1);
        CHECKS.refused("cycle 0", "2.0", x, () -> Floors.family(x, "0 1 0x1"));
        CHECKS.due("the buffer behind a refusal", 0, () -> x.account(14));
        CHECKS.due("the fault behind a refusal", -1, () -> x.faultPosition());
        CHECKS.refused("cycle 00", "2.0", x, () -> Floors.family(x, "00 1 0x1"));
        CHECKS.refused("weight 0", "2.0", x, () -> Floors.family(x, "1 000 0x1"));
        CHECKS.refused("0 pieces", "2.0", x, () -> Floors.family(x, "1 1 0x0"));
        CHECKS.refused("0 pieces at last", "2.0", x, () -> Floors.family(x, "1 1 0x1 1x1 2x0"));
        CHECKS.refused("2 ahead of 1", "2.0", x, () -> Floors.family(x, "1 1 9x1 1x0"));
        CHECKS.refused("no such part", "1.0", x, () -> Floors.family(x, "1 1 3x1"));
        CHECKS.refused("no such part at last", "1.0", x, () -> Floors.family(x, "1 1 0x1 9x1"));
        CHECKS.refused("no such part in the middle", "1.0", x, () -> Floors.family(x, "1 1 0x1 9x1 1x1"));
        CHECKS.refused("1 ahead of 14", "1.0", x, () -> Floors.family(x, "1 1 9x1 9x1"));
        CHECKS.refused("a part twice", "14.2", x, () -> Floors.family(x, "1 1 2x1 2x2"));
        CHECKS.refused("a part twice, apart", "14.1", x, () -> Floors.family(x, "1 1 1x1 2x2 1x1"));
        CHECKS.refused("a part twice, at last", "14.2", x, () -> Floors.family(x, "1 1 1x1 2x2 2x1"));
        CHECKS.refused("a part thrice", "14.1", x, () -> Floors.family(x, "1 1 1x1 1x1 1x1"));
        CHECKS.due("the first family", 0, () -> Floors.family(x, "1 1 0x1"));
        for (int number = 1; number < 6; number++) {
            CHECKS.due("a family", number, () -> Floors.family(x, "1 1 0x1"));
        }
        CHECKS.refused("a seventh family", "3.0", x, () -> Floors.family(x, "1 1 0x1"));
        CHECKS.refused("2 ahead of 3", "2.0", x, () -> Floors.family(x, "1 0 0x1"));
        CHECKS.refused("1 ahead of 3", "1.0", x, () -> Floors.family(x, "1 1 3x1"));
        CHECKS.refused("14 ahead of 3", "14.0", x, () -> Floors.family(x, "1 1 0x1 0x1"));
    }

    private static void familyFault(String text, int position) {
        MouldFloor x = Floors.withShades(1);
        String before = Floors.stateOf(x);
        CHECKS.due("family \"" + text + "\"", Checks.ARGUMENT, () -> Floors.family(x, text));
        CHECKS.due("the fault of \"" + text + "\"", position, () -> x.faultPosition());
        CHECKS.due("the buffer behind a fault", 0, () -> x.account(14));
        CHECKS.due("the state behind a fault", before, () -> Floors.stateOf(x));
        CHECKS.due("the reasons behind a fault", "", () -> Floors.reasonsOf(x));
    }

    private static void familyFaults() {
        String[] early = {"", "1", "12", "1 ", "1 2", "1 234", "1 2 ", "1 2 0", "1 2 0x", "1 2 0x1 ", "1 2 0x1 1x1 2"};
        for (String text : early) {
            familyFault(text, text.length());
        }
        familyFault("x", 0);
        familyFault(" 1 1 0x1", 0);
        familyFault("-1 1 0x1", 0);
        familyFault("123 1 0x1", 2);
        familyFault("1  1 0x1", 2);
        familyFault("1 1234 0x1", 5);
        familyFault("1 1x 0x1", 3);
        familyFault("1 1 x", 4);
        familyFault("1 1 00x1", 5);
        familyFault("1 1 0X1", 5);
        familyFault("1 1 0xx", 6);
        familyFault("1 1 0x11", 7);
        familyFault("1 1 0x1;", 7);
        familyFault("1 1 0x1  1x1", 8);
        familyFault("1 1 0x1 1x1 2x1 ", 15);
        familyFault("1 1 0x1 1x1 2x1 3x1", 15);
        familyFault("1 1 0x1 1x1 2x1x", 15);
        familyFault("1 1 0x" + (char) 0x661, 6);
        familyFault("m0", 0);
        familyFault("1/1 0x1", 1);
        familyFault("1:1 0x1", 1);
    }

    private static void program() {
        MouldFloor x = Floors.withFamily();
        CHECKS.due("program", 4, () -> Floors.program(x, "m0;l01g100;w60;r1x2"));
        CHECKS.due("the buffer behind a program", 0, () -> x.account(14));
        CHECKS.due("mounted by a program", 0, () -> x.account(8));
        CHECKS.due("the minutes of a program", 10 + 60 + 10, () -> x.account(5));
        CHECKS.due("the grams behind a program", 80, () -> x.account(9));
        CHECKS.due("the run of a program", 1, () -> x.account(7));
        CHECKS.due("the changes by a program", 7, () -> x.account(13));
        CHECKS.due("undo of a program", 6, () -> x.undo());
        CHECKS.due("the time before a program", 0, () -> x.account(5));
        CHECKS.due("zeros in front", 3, () -> Floors.program(x, "w001;w01;l20g00007"));
        CHECKS.due("the minutes", 2, () -> x.account(5));
        CHECKS.due("the grams", 7, () -> x.dryer(2, 1));
        CHECKS.due("the most minutes", 1, () -> Floors.program(x, "w999"));
        CHECKS.due("the most grams", 1, () -> Floors.program(x, "l11g99999"));
        CHECKS.due("the grams", 99999, () -> x.dryer(1, 1));
        String waits = "w1;".repeat(26) + "w1";
        CHECKS.due("a program of 80 characters", 27, () -> Floors.program(x, waits));
        CHECKS.due("the minutes", 1028, () -> x.account(5));
        CHECKS.due("the most shots", Checks.REFUSED, () -> Floors.program(x, "m0;r1x200"));
        CHECKS.due("not carried out in part", -1, () -> x.account(8));
    }

    private static void programRefusals() {
        MouldFloor x = Floors.ready();
        CHECKS.refused("no such family", "13.0 1.0", x, () -> Floors.program(x, "m1"));
        CHECKS.due("the buffer behind a refusal", 0, () -> x.account(14));
        CHECKS.due("the fault behind a refusal", -1, () -> x.faultPosition());
        CHECKS.refused("mounted already", "13.2 4.0", x, () -> Floors.program(x, "w1;w1;m0;m1"));
        CHECKS.refused("wait 0", "13.1 2.0", x, () -> Floors.program(x, "w1;w0"));
        CHECKS.refused("run 0", "13.1 2.0", x, () -> Floors.program(x, "w1;r0x0"));
        CHECKS.refused("run 201", "13.1 2.0", x, () -> Floors.program(x, "w1;r0x201"));
        CHECKS.refused("run of no colour", "13.0 1.0", x, () -> Floors.program(x, "r2x0"));
        CHECKS.refused("load 0", "13.0 2.0", x, () -> Floors.program(x, "l00g0"));
        CHECKS.refused("load of no dryer", "13.0 1.0", x, () -> Floors.program(x, "l30g0"));
        CHECKS.refused("load of no colour", "13.0 1.0", x, () -> Floors.program(x, "l02g0"));
        CHECKS.refused("load of another colour", "13.0 6.1", x, () -> Floors.program(x, "l10g1"));
        CHECKS.refused("load of too much", "13.1 7.0", x, () -> Floors.program(x, "l00g40000;l00g10000"));
        CHECKS.refused("run with damp granulate", "13.2 10.0 11.59", x,
            () -> Floors.program(x, "l00g1;w1;r0x1"));
        MouldFloor y = Floors.withFamily();
        CHECKS.refused("run with none mounted", "13.0 5.0", y, () -> Floors.program(y, "r0x1"));
        CHECKS.refused("run with no granulate", "13.1 10.0", y, () -> Floors.program(y, "m0;r0x1"));
        CHECKS.refused("run with too little", "13.3 10.0 12.11", y, () -> Floors.program(y, "m0;l20g9;w60;r0x2"));
        CHECKS.refused("mounted twice", "13.1 4.0", y, () -> Floors.program(y, "m0;".repeat(26) + "m0"));
        CHECKS.refused("at the last of 27", "13.26 2.0", y, () -> Floors.program(y, "w1;".repeat(26) + "w0"));
    }

    private static void programFault(String text, int position) {
        MouldFloor x = Floors.withFamily();
        String before = Floors.stateOf(x);
        CHECKS.due("program \"" + text + "\"", Checks.ARGUMENT, () -> Floors.program(x, text));
        CHECKS.due("the fault of \"" + text + "\"", position, () -> x.faultPosition());
        CHECKS.due("the buffer behind a fault", 0, () -> x.account(14));
        CHECKS.due("the state behind a fault", before, () -> Floors.stateOf(x));
        CHECKS.due("the reasons behind a fault", "", () -> Floors.reasonsOf(x));
    }

    private static void programFaults() {
        String[] early = {"", "m", "r", "r0", "r0x", "w", "l", "l0", "l00", "l00g", "m0;", "w123;", "l00g12345;", "r0x1;w"};
        for (String text : early) {
            programFault(text, text.length());
        }
        programFault("x", 0);
        programFault(";", 0);
        programFault("M0", 0);
        programFault("m00", 2);
        programFault("mm", 1);
        programFault("m0m", 2);
        programFault("m0 ;m0", 2);
        programFault("m0;;m0", 3);
        programFault("m0; m0", 3);
        programFault("r00x1", 2);
        programFault("r0g1", 2);
        programFault("r0x1234", 6);
        programFault("rx1", 1);
        programFault("w1234", 4);
        programFault("w-1", 1);
        programFault("l0g1", 2);
        programFault("l000g1", 3);
        programFault("l00x1", 3);
        programFault("l00g123456", 9);
        programFault("l00gg", 4);
        programFault("m0;w1;e0", 6);
        programFault("5 10 0x1", 0);
        programFault("m0;".repeat(26) + "mm", 79);
        programFault("m0;".repeat(26) + "m", 79);
    }

    private static void faultPosition() {
        MouldFloor x = Floors.withFamily();
        CHECKS.due("the fault behind a family", -1, () -> x.faultPosition());
        CHECKS.due("a fault", Checks.ARGUMENT, () -> Floors.program(x, "m0;m"));
        CHECKS.due("its position", 4, () -> x.faultPosition());
        x.save();
        x.colour(1);
        CHECKS.due("the position behind a colour", 4, () -> x.faultPosition());
        x.undo();
        CHECKS.due("the position behind undo", 4, () -> x.faultPosition());
        x.restore();
        CHECKS.due("the position behind restore", 4, () -> x.faultPosition());
        x.append('w');
        CHECKS.due("the position behind append", 4, () -> x.faultPosition());
        x.append('1');
        CHECKS.due("a program without a fault", 1, () -> x.program());
        CHECKS.due("no position", -1, () -> x.faultPosition());
        CHECKS.due("a fault of a family", Checks.ARGUMENT, () -> x.family());
        CHECKS.due("its position", 0, () -> x.faultPosition());
        CHECKS.due("a refused family", Checks.REFUSED, () -> Floors.family(x, "0 1 0x1"));
        CHECKS.due("no position", -1, () -> x.faultPosition());
    }
}
