import java.util.Set;

/** Tells all that can be asked of a floor, in sections for each of which the calls that are promised suffice. */
final class Seen {
    static final int SECTIONS = 4;
    static final String CHANGES = "changes";
    static final String CHARACTERS = "characters";
    static final String FAULT = "fault";
    static final String REASONS = "reasons";

    private final Subject x;
    private final Set<String> hidden;
    private final StringBuilder told = new StringBuilder();

    private Seen(Subject x, Set<String> hidden) {
        this.x = x;
        this.hidden = hidden;
    }

    /** What is hidden is not told. */
    static String of(Subject x, int section, Set<String> hidden) {
        Seen seen = new Seen(x, hidden);
        switch (section) {
            case 0 -> seen.tellAccounts();
            case 1 -> seen.tellFamilies();
            case 2 -> seen.tellCrates();
            default -> seen.tellColours();
        }
        return seen.told.toString();
    }

    /** The reasons with their details as "10.0 11.60", the one that is farthest behind last. */
    static String reasons(Subject x) {
        StringBuilder all = new StringBuilder();
        for (int depth = 0; depth < 10; depth++) {
            Object number = x.answer("reason", depth, false);
            Object detail = x.answer("reason", depth, true);
            if (number == Checks.ELEMENT && detail == Checks.ELEMENT) {
                return all.toString();
            }
            all.append(depth > 0 ? " " : "").append(number).append('.').append(detail);
        }
        return all.append(" and more").toString();
    }

    private void tell(String name, Object... numbers) {
        if (hidden.contains(name)) {
            return;
        }
        told.append(name);
        for (Object number : numbers) {
            told.append(' ').append(number);
        }
        told.append("; ");
    }

    private void tellAccounts() {
        for (int what = 0; what <= 18; what++) {
            tell(what == 13 ? CHANGES : what == 14 ? CHARACTERS : "account " + what, x.answer("account", what));
        }
        for (int dryer = 0; dryer < 3; dryer++) {
            for (int what = 0; what < 4; what++) {
                tell("dryer " + dryer, x.answer("dryer", dryer, what));
            }
        }
        tell("scrap", x.answer("scrap"));
        tell("lateness", x.answer("lateness"));
        tell(FAULT, x.answer("faultPosition"));
        tell(REASONS, reasons(x));
    }

    private void tellFamilies() {
        int parts = x.number("account", 1);
        for (int family = 0; family < x.number("account", 2); family++) {
            for (int what = 0; what < 5; what++) {
                tell("family " + family, x.answer("familyOf", family, what));
            }
            for (int part = 0; part < parts; part++) {
                tell("pieces", x.answer("pieces", family, part));
            }
        }
        for (int part = 0; part < parts; part++) {
            tell("families with " + part, x.answer("families", part));
        }
    }

    private void tellCrates() {
        int colours = x.number("account", 0);
        for (int part = 0; part < x.number("account", 1); part++) {
            for (int what = 0; what < 4; what++) {
                tell("part " + part, x.answer("made", part, what));
            }
            for (int colour = 0; colour < colours; colour++) {
                tell("stock", x.answer("stock", part, colour, 0), x.answer("stock", part, colour, 1),
                    x.answer("stock", part, colour, 2));
            }
        }
        for (int order = 0; order < x.number("account", 3); order++) {
            for (int what = 0; what < 6; what++) {
                tell("order " + order, x.answer("orderOf", order, what));
            }
            tell("letter", x.answer("letter", order));
            tell("shots", x.answer("shots", order));
        }
    }

    private void tellColours() {
        int colours = x.number("account", 0);
        int all = (1 << colours) - 1;
        for (int from = 0; from < colours; from++) {
            for (int to = 0; to < colours; to++) {
                tell("purge", x.answer("purge", from, to));
            }
            tell("minutes", x.answer("minutes", from, 1));
            tell("place " + from, x.answer("bestColour", all, from));
        }
        tell("best", x.answer("best", all), x.answer("bestAgain", all));
        for (int week : new int[] {0, 1, 2, 3, 5, 9, 98, 99, Integer.MAX_VALUE}) {
            tell("due " + week, x.answer("due", week));
        }
    }
}
