import java.util.NoSuchElementException;

/** Makes floors for tests, and tells all that can be seen of one. */
final class Floors {
    private Floors() {
    }

    static MouldFloor typed(MouldFloor x, String text) {
        for (char character : text.toCharArray()) {
            x.append(character);
        }
        return x;
    }

    static int family(MouldFloor x, String text) {
        return typed(x, text).family();
    }

    static int program(MouldFloor x, String text) {
        return typed(x, text).program();
    }

    /** A floor with colours of these shades and parts with crates of 4, 3 and 5 pieces. */
    static MouldFloor withShades(int... shades) {
        MouldFloor x = new MouldFloor();
        for (int shade : shades) {
            x.colour(shade);
        }
        x.part(4);
        x.part(3);
        x.part(5);
        return x;
    }

    /** Shades 2 and 5; the family 0 takes 5 minutes and 10 grams for 2 of the part 0 and 1 of the part 1. */
    static MouldFloor withFamily() {
        MouldFloor x = withShades(2, 5);
        family(x, "5 10 0x2 1x1");
        return x;
    }

    /** Likewise, mounted by the minute 10, with both colours dry by the minute 70. */
    static MouldFloor ready() {
        MouldFloor x = withFamily();
        x.mount(0);
        x.load(0, 0, 50000);
        x.load(1, 1, 50000);
        x.pause(60);
        return x;
    }

    /** All that can be undone, and how much can be. */
    static String stateOf(MouldFloor x) {
        return valuesOf(x) + "; changes " + x.account(13);
    }

    /** All that can be undone. */
    static String valuesOf(MouldFloor x) {
        StringBuilder told = new StringBuilder("accounts");
        for (int what = 0; what <= 18; what++) {
            told.append(' ').append(what == 13 || what == 14 ? 0 : x.account(what));
        }
        int colours = x.account(0);
        tellFamilies(x, told);
        for (int dryer = 0; dryer < 3; dryer++) {
            tell(told, "dryer", x.dryer(dryer, 0), x.dryer(dryer, 1), x.dryer(dryer, 2), x.dryer(dryer, 3));
        }
        for (int order = 0; order < x.account(3); order++) {
            tell(told, "order", x.orderOf(order, 0), x.orderOf(order, 1), x.orderOf(order, 2), x.orderOf(order, 3),
                x.orderOf(order, 4), x.orderOf(order, 5), x.letter(order));
        }
        for (int from = 0; from < colours; from++) {
            for (int to = 0; to < colours; to++) {
                tell(told, "purge", x.purge(from, to));
            }
        }
        int all = (1 << colours) - 1;
        tell(told, "best", x.best(all), x.bestAgain(all));
        told.append("; ").append(Checks.answerOf(x::scrap)).append("; ").append(Checks.answerOf(x::lateness));
        return told.toString();
    }

    private static void tellFamilies(MouldFloor x, StringBuilder told) {
        for (int family = 0; family < x.account(2); family++) {
            tell(told, "family", x.familyOf(family, 0), x.familyOf(family, 1), x.familyOf(family, 2),
                x.familyOf(family, 3), x.familyOf(family, 4));
        }
        for (int part = 0; part < x.account(1); part++) {
            tell(told, "part", x.families(part), x.made(part, 0), x.made(part, 1), x.made(part, 2), x.made(part, 3));
            for (int family = 0; family < x.account(2); family++) {
                tell(told, "pieces", x.pieces(family, part));
            }
            for (int colour = 0; colour < x.account(0); colour++) {
                tell(told, "stock", x.stock(part, colour, 0), x.stock(part, colour, 1), x.stock(part, colour, 2));
            }
        }
    }

    private static void tell(StringBuilder told, String name, int... numbers) {
        told.append("; ").append(name);
        for (int number : numbers) {
            told.append(' ').append(number);
        }
    }

    /** The reasons and their details, the one that is farthest behind last. */
    static String reasonsOf(MouldFloor x) {
        StringBuilder told = new StringBuilder();
        for (int depth = 0; depth < 10; depth++) {
            try {
                int number = x.reason(depth, false);
                told.append(depth > 0 ? " " : "").append(number).append('.').append(x.reason(depth, true));
            } catch (NoSuchElementException none) {
                return told.toString();
            }
        }
        return told.append(" and more").toString();
    }
}
