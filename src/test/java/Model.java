import java.util.ArrayDeque;
import java.util.ArrayList;
import java.util.Deque;
import java.util.List;
import java.util.NoSuchElementException;
import java.util.TreeMap;
import java.util.regex.Matcher;
import java.util.regex.Pattern;

/** The document once more, in the slowest and plainest way: minute by minute, piece by piece, by lists and patterns. */
final class Model {
    private static final Pattern FAMILY = Pattern.compile("[0-9]{1,2} [0-9]{1,3}( [0-9]x[0-9]){1,3}");
    private static final String COMMAND = "(m[0-9]|r[0-9]x[0-9]{1,3}|w[0-9]{1,3}|l[0-9][0-9]g[0-9]{1,5})";
    private static final Pattern PROGRAM = Pattern.compile(COMMAND + "(;" + COMMAND + ")*");
    private static final int[][] SETTINGS = {{60, 9999}, {0, 999}, {0, 5}, {0, 99}};

    /** A refusal, with reasons and details in turns. */
    static final class Refusal extends UnsupportedOperationException {
        private static final long serialVersionUID = 1L;
        final transient List<Integer> reasons;

        Refusal(Integer... reasons) {
            this(List.of(reasons));
        }

        Refusal(List<Integer> reasons) {
            this.reasons = reasons;
        }
    }

    /** All that can be undone, in rows that can be copied. */
    static final class State {
        List<Integer> shades = new ArrayList<>();
        List<Integer> sizes = new ArrayList<>();
        List<int[]> families = new ArrayList<>();
        List<int[]> orders = new ArrayList<>();
        int[] settings = {480, 60, 2, 10};
        int[][] dryers = {{-1, 0, 0}, {-1, 0, 0}, {-1, 0, 0}};
        TreeMap<String, Integer> counts = new TreeMap<>();
        int now;
        int week;
        int weekBegan;
        int colour = -1;
        int mounted = -1;

        State copy() {
            State other = new State();
            other.shades.addAll(shades);
            other.sizes.addAll(sizes);
            families.forEach(family -> other.families.add(family.clone()));
            orders.forEach(order -> other.orders.add(order.clone()));
            other.settings = settings.clone();
            for (int dryer = 0; dryer < 3; dryer++) {
                other.dryers[dryer] = dryers[dryer].clone();
            }
            other.counts.putAll(counts);
            other.now = now;
            other.week = week;
            other.weekBegan = weekBegan;
            other.colour = colour;
            other.mounted = mounted;
            return other;
        }

        int count(String name) {
            return counts.getOrDefault(name, 0);
        }

        void count(String name, int more) {
            counts.merge(name, more, Integer::sum);
        }
    }

    private State s = new State();
    private final Deque<State> undo = new ArrayDeque<>();
    private State snapshot;
    private String text = "";
    private int fault = -1;
    private List<Integer> reasons = List.of();

    interface Change {
        int change();
    }

    private int changed(Change change) {
        State before = s.copy();
        int answer;
        try {
            answer = change.change();
        } catch (Refusal refusal) {
            s = before;
            reasons = refusal.reasons;
            throw refusal;
        }
        undo.addLast(before);
        if (undo.size() > 8) {
            undo.removeFirst();
        }
        return answer;
    }

    private static void refuseIf(boolean isSo, Integer... reasons) {
        if (isSo) {
            throw new Refusal(reasons);
        }
    }

    private static boolean out(int value, int least, int most) {
        return value < least || value > most;
    }

    private boolean noColour(int colour) {
        return out(colour, 0, s.shades.size() - 1);
    }

    private boolean noPart(int part) {
        return out(part, 0, s.sizes.size() - 1);
    }

    private boolean noFamily(int family) {
        return out(family, 0, s.families.size() - 1);
    }

    private boolean noOrder(int order) {
        return out(order, 0, s.orders.size() - 1);
    }

    int append(char character) {
        if (text.length() == 80) {
            throw new IllegalStateException();
        }
        text += character;
        return text.length();
    }

    int colour(int shade) {
        return changed(() -> {
            refuseIf(out(shade, 0, 9), 2, 0);
            refuseIf(s.shades.size() == 6, 3, 0);
            s.shades.add(shade);
            return s.shades.size() - 1;
        });
    }

    int part(int size) {
        return changed(() -> {
            refuseIf(out(size, 1, 50), 2, 0);
            refuseIf(s.sizes.size() == 8, 3, 0);
            s.sizes.add(size);
            return s.sizes.size() - 1;
        });
    }

    /** A character can continue a text if the pattern wants more behind it, or nothing. */
    private String taken(Pattern pattern) {
        String taken = text;
        text = "";
        fault = -1;
        if (pattern.matcher(taken).matches()) {
            return taken;
        }
        fault = taken.length();
        for (int length = taken.length(); length > 0; length--) {
            Matcher matcher = pattern.matcher(taken.substring(0, length));
            if (!matcher.matches() && !matcher.hitEnd()) {
                fault = length - 1;
            }
        }
        throw new IllegalArgumentException();
    }

    int family() {
        String[] words = taken(FAMILY).split(" ");
        return changed(() -> {
            int[] family = new int[10];
            family[0] = Integer.parseInt(words[0]);
            family[1] = Integer.parseInt(words[1]);
            refuseIf(family[0] == 0 || family[1] == 0, 2, 0);
            for (int word = 2; word < words.length; word++) {
                refuseIf(words[word].endsWith("x0"), 2, 0);
            }
            for (int word = 2; word < words.length; word++) {
                refuseIf(noPart(words[word].charAt(0) - '0'), 1, 0);
            }
            for (int word = 2; word < words.length; word++) {
                int part = words[word].charAt(0) - '0';
                refuseIf(family[2 + part] > 0, 14, part);
                family[2 + part] = words[word].charAt(2) - '0';
            }
            refuseIf(s.families.size() == 6, 3, 0);
            s.families.add(family);
            return s.families.size() - 1;
        });
    }

    int program() {
        String[] commands = taken(PROGRAM).split(";");
        return changed(() -> {
            for (int index = 0; index < commands.length; index++) {
                try {
                    command(commands[index]);
                } catch (Refusal refusal) {
                    List<Integer> all = new ArrayList<>(List.of(13, index));
                    all.addAll(refusal.reasons);
                    throw new Refusal(all);
                }
            }
            return commands.length;
        });
    }

    private void command(String command) {
        int first = command.charAt(1) - '0';
        switch (command.charAt(0)) {
            case 'm' -> doMount(first);
            case 'w' -> doPause(Integer.parseInt(command.substring(1)));
            case 'r' -> doRun(first, Integer.parseInt(command.substring(3)));
            default -> doLoad(first, command.charAt(2) - '0', Integer.parseInt(command.substring(4)));
        }
    }

    int faultPosition() {
        return fault;
    }

    int mount(int family) {
        return changed(() -> doMount(family));
    }

    private int doMount(int family) {
        refuseIf(noFamily(family), 1, 0);
        refuseIf(s.mounted == family, 4, 0);
        s.mounted = family;
        return pass(s.settings[3]);
    }

    private int pass(int minutes) {
        int week = s.week;
        for (int minute = 0; minute < minutes; minute++) {
            s.now++;
            for (int[] dryer : s.dryers) {
                dryer[2] += dryer[1] > 0 ? 1 : 0;
            }
            if (s.now - s.weekBegan >= s.settings[0]) {
                endWeek();
            }
        }
        return s.week - week;
    }

    private void endWeek() {
        for (int[] order : s.orders) {
            if (order[4] == 0 && order[3] <= s.week) {
                String of = order[0] + "," + order[1];
                if (s.count("closed" + of) >= order[2]) {
                    order[4] = 1;
                    s.count("closed" + of, -order[2]);
                    s.count("gone" + of, order[2]);
                } else {
                    order[5]++;
                }
            }
        }
        s.week++;
        s.weekBegan = s.now;
    }

    int load(int dryer, int colour, int grams) {
        return changed(() -> doLoad(dryer, colour, grams));
    }

    private int doLoad(int dryer, int colour, int grams) {
        refuseIf(out(dryer, 0, 2) || noColour(colour), 1, 0);
        refuseIf(out(grams, 1, 99999), 2, 0);
        int[] row = s.dryers[dryer];
        refuseIf(row[1] > 0 && row[0] != colour, 6, row[0]);
        refuseIf(row[1] + grams > 99999, 7, 0);
        s.dryers[dryer] = new int[] {colour, row[1] + grams, 0};
        return row[1] + grams;
    }

    int empty(int dryer) {
        return changed(() -> {
            refuseIf(out(dryer, 0, 2), 1, 0);
            int had = s.dryers[dryer][1];
            refuseIf(had == 0, 8, 0);
            s.dryers[dryer] = new int[] {-1, 0, 0};
            return had;
        });
    }

    int pause(int minutes) {
        return changed(() -> doPause(minutes));
    }

    private int doPause(int minutes) {
        refuseIf(out(minutes, 1, 999), 2, 0);
        return pass(minutes);
    }

    int run(int colour, int shots) {
        return changed(() -> doRun(colour, shots));
    }

    private int doRun(int colour, int shots) {
        refuseIf(noColour(colour), 1, 0);
        refuseIf(out(shots, 1, 200), 2, 0);
        refuseIf(s.mounted < 0, 5, 0);
        int[] family = s.families.get(s.mounted);
        int purge = between(s.colour, colour);
        int grams = (purge + shots) * family[1];
        int[] dryer = dryerFor(colour, grams);
        dryer[1] -= grams;
        if (dryer[1] == 0) {
            dryer[0] = -1;
            dryer[2] = 0;
        }
        s.count("grams", grams);
        s.count("shots", purge + shots);
        s.count("purges", purge);
        pass((purge + shots) * family[0]);
        s.colour = colour;
        for (int part = 0; part < 8; part++) {
            s.count("scrap" + part, purge * family[2 + part]);
            s.count("made" + part, (purge + shots) * family[2 + part]);
            for (int piece = 0; piece < shots * family[2 + part]; piece++) {
                s.count("open" + part + "," + colour, 1);
                if (s.count("open" + part + "," + colour) == s.sizes.get(part)) {
                    s.count("open" + part + "," + colour, -s.sizes.get(part));
                    s.count("closed" + part + "," + colour, 1);
                }
            }
        }
        return purge;
    }

    private int[] dryerFor(int colour, int grams) {
        for (int[] dryer : s.dryers) {
            if (dryer[0] == colour && dryer[2] >= s.settings[1] && dryer[1] >= grams) {
                return dryer;
            }
        }
        for (int[] dryer : s.dryers) {
            if (dryer[0] == colour) {
                refuseIf(dryer[2] < s.settings[1], 10, 0, 11, s.settings[1] - dryer[2]);
                refuseIf(true, 10, 0, 12, grams - dryer[1]);
            }
        }
        throw new Refusal(10, 0);
    }

    private int between(int from, int to) {
        if (from < 0 || from == to) {
            return 0;
        }
        int difference = s.shades.get(from) - s.shades.get(to);
        return difference > 0 ? 1 + difference * s.settings[2] : 1;
    }

    int order(int part, int colour, int crates, int week) {
        return changed(() -> {
            refuseIf(noPart(part) || noColour(colour), 1, 0);
            refuseIf(out(crates, 1, 20) || out(week, 0, 99), 2, 0);
            refuseIf(s.orders.size() == 10, 3, 0);
            s.orders.add(new int[] {part, colour, crates, week, 0, 0});
            return s.orders.size() - 1;
        });
    }

    int callOff(int order) {
        return changed(() -> {
            refuseIf(noOrder(order), 1, 0);
            refuseIf(s.orders.get(order)[4] != 0, 9, 0);
            s.orders.get(order)[4] = 2;
            return account(4);
        });
    }

    int set(int what, int value) {
        return changed(() -> {
            refuseIf(out(what, 0, 3), 2, 0);
            refuseIf(out(value, SETTINGS[what][0], SETTINGS[what][1]), 2, 0);
            int before = s.settings[what];
            s.settings[what] = value;
            return before;
        });
    }

    private static void indexIf(boolean isSo) {
        if (isSo) {
            throw new IndexOutOfBoundsException();
        }
    }

    private static void argumentIf(boolean isSo) {
        if (isSo) {
            throw new IllegalArgumentException();
        }
    }

    private static void elementIf(boolean isSo) {
        if (isSo) {
            throw new NoSuchElementException();
        }
    }

    int purge(int from, int to) {
        indexIf(noColour(from) || noColour(to));
        return between(from, to);
    }

    int minutes(int colour, int shots) {
        indexIf(noColour(colour));
        argumentIf(out(shots, 1, 200));
        if (s.mounted < 0) {
            throw new IllegalStateException();
        }
        return (between(s.colour, colour) + shots) * s.families.get(s.mounted)[0];
    }

    /** All orders as they come, so that the first one that is best is the one. */
    private List<Integer> bestOrder(int colours) {
        argumentIf(colours < 0);
        List<Integer> all = new ArrayList<>();
        for (int colour = 0; colour < 31; colour++) {
            if ((colours & 1 << colour) != 0) {
                argumentIf(noColour(colour));
                all.add(colour);
            }
        }
        List<List<Integer>> orders = new ArrayList<>();
        permute(new ArrayList<>(), all, orders);
        List<Integer> best = orders.get(0);
        for (List<Integer> order : orders) {
            best = sumOf(order) < sumOf(best) ? order : best;
        }
        return best;
    }

    private static void permute(List<Integer> begun, List<Integer> all, List<List<Integer>> orders) {
        if (begun.size() == all.size()) {
            orders.add(new ArrayList<>(begun));
        }
        for (Integer next : all) {
            if (!begun.contains(next)) {
                begun.add(next);
                permute(begun, all, orders);
                begun.remove(next);
            }
        }
    }

    private int sumOf(List<Integer> order) {
        int sum = 0;
        int last = s.colour;
        for (int colour : order) {
            sum += between(last, colour);
            last = colour;
        }
        return sum;
    }

    int best(int colours) {
        return sumOf(bestOrder(colours));
    }

    int bestColour(int colours, int index) {
        List<Integer> best = bestOrder(colours);
        elementIf(out(index, 0, best.size() - 1));
        return best.get(index);
    }

    int familyOf(int family, int what) {
        indexIf(noFamily(family));
        argumentIf(out(what, 0, 4));
        int[] row = s.families.get(family);
        int parts = 0;
        int pieces = 0;
        for (int part = 0; part < 8; part++) {
            parts += row[2 + part] > 0 ? 1 : 0;
            pieces += row[2 + part];
        }
        return new int[] {row[0], row[1], parts, pieces, s.mounted == family ? 1 : 0}[what];
    }

    int pieces(int family, int part) {
        indexIf(noFamily(family) || noPart(part));
        return s.families.get(family)[2 + part];
    }

    int families(int part) {
        indexIf(noPart(part));
        int bits = 0;
        for (int family = 0; family < s.families.size(); family++) {
            bits += s.families.get(family)[2 + part] > 0 ? 1 << family : 0;
        }
        return bits;
    }

    int dryer(int dryer, int what) {
        indexIf(out(dryer, 0, 2));
        argumentIf(out(what, 0, 3));
        int[] row = s.dryers[dryer];
        int lacking = row[1] > 0 && row[2] < s.settings[1] ? s.settings[1] - row[2] : 0;
        return new int[] {row[0], row[1], row[2], lacking}[what];
    }

    int stock(int part, int colour, int what) {
        indexIf(noPart(part) || noColour(colour));
        argumentIf(out(what, 0, 2));
        return s.count(List.of("closed", "open", "gone").get(what) + part + "," + colour);
    }

    int made(int part, int what) {
        indexIf(noPart(part));
        argumentIf(out(what, 0, 3));
        int crates = 0;
        int rest = 0;
        for (int colour = 0; colour < 6; colour++) {
            crates += s.count("closed" + part + "," + colour) + s.count("gone" + part + "," + colour);
            rest += s.count("open" + part + "," + colour);
        }
        return new int[] {s.count("made" + part), crates * s.sizes.get(part), rest, s.count("scrap" + part)}[what];
    }

    int orderOf(int order, int what) {
        indexIf(noOrder(order));
        argumentIf(out(what, 0, 5));
        return s.orders.get(order)[what];
    }

    int shots(int order) {
        indexIf(noOrder(order));
        int[] row = s.orders.get(order);
        elementIf(row[4] != 0 || s.mounted < 0 || s.families.get(s.mounted)[2 + row[0]] == 0);
        int shots = 0;
        int pieces = s.count("open" + row[0] + "," + row[1]);
        while (s.count("closed" + row[0] + "," + row[1]) + pieces / s.sizes.get(row[0]) < row[2]) {
            pieces += s.families.get(s.mounted)[2 + row[0]];
            shots++;
        }
        return shots;
    }

    char letter(int order) {
        indexIf(noOrder(order));
        int[] row = s.orders.get(order);
        return row[4] == 0 && row[5] > 0 ? 'l' : "odc".charAt(row[4]);
    }

    int due(int week) {
        argumentIf(week < 0);
        int bits = 0;
        for (int order = 0; order < s.orders.size(); order++) {
            bits += s.orders.get(order)[4] == 0 && s.orders.get(order)[3] <= week ? 1 << order : 0;
        }
        return bits;
    }

    int reason(int depth, boolean isDetail) {
        argumentIf(depth < 0);
        elementIf(depth >= reasons.size() / 2);
        return reasons.get(2 * depth + (isDetail ? 1 : 0));
    }

    float scrap() {
        int scrap = 0;
        int made = 0;
        for (int part = 0; part < 8; part++) {
            scrap += s.count("scrap" + part);
            made += s.count("made" + part);
        }
        if (made == 0) {
            throw new ArithmeticException();
        }
        return (float) scrap / (float) made;
    }

    double lateness() {
        double late = 0;
        double delivered = 0;
        for (int[] order : s.orders) {
            late += order[4] == 1 ? order[5] : 0;
            delivered += order[4] == 1 ? 1 : 0;
        }
        if (delivered == 0) {
            throw new ArithmeticException();
        }
        return late / delivered;
    }

    int account(int what) {
        argumentIf(out(what, 0, 18));
        int open = 0;
        for (int[] order : s.orders) {
            open += order[4] == 0 ? 1 : 0;
        }
        int grams = s.dryers[0][1] + s.dryers[1][1] + s.dryers[2][1];
        return new int[] {s.shades.size(), s.sizes.size(), s.families.size(), s.orders.size(), open, s.now, s.week,
            s.colour, s.mounted, grams, s.count("grams"), s.count("shots"), s.count("purges"), undo.size(),
            text.length(), s.settings[0], s.settings[1], s.settings[2], s.settings[3]}[what];
    }

    int undo() {
        if (undo.isEmpty()) {
            throw new IllegalStateException();
        }
        s = undo.removeLast();
        return undo.size();
    }

    int save() {
        snapshot = s.copy();
        return s.orders.size();
    }

    int restore() {
        if (snapshot == null) {
            throw new IllegalStateException();
        }
        s = snapshot.copy();
        undo.clear();
        return s.orders.size();
    }
}
