import java.util.ArrayList;
import java.util.Collections;
import java.util.HashMap;
import java.util.HashSet;
import java.util.List;
import java.util.Map;
import java.util.Set;
import java.util.regex.Matcher;
import java.util.regex.Pattern;

/**
 * Tests that are written as rows, each a call on one floor with what is due: "colour(3) = 0", "colour(10) refused 2.0"
 * with the reasons and their details, "undo() throws State", "family("1 x") fault 2"; a text is appended ahead of the
 * call; a row without an answer only has to succeed.
 *
 * <p>Behind each row all is asked that can be: a question, a refusal and an exception have to leave all as it was, also
 * what undo, restore and time make of it, and a change has to be undone by undo and by restore. For this the rows so
 * far are called again on floors of their own, so that no floor has more calls than are promised.
 */
final class Rows {
    private static final Pattern ROW =
        Pattern.compile("(\\w+)\\((\"[^\"]*\"|'.'|[^\"']*?)\\)(?: (=|refused|throws|fault) ?(.*))?");
    private static final Set<String> CHANGES = Set.of("colour", "part", "family", "program", "mount", "load", "empty",
        "pause", "run", "order", "callOff", "set");
    private static final Set<String> OTHERS = Set.of("append", "undo", "save", "restore");
    private static final Map<String, Class<?>> EXCEPTIONS = Map.of("Argument", Checks.ARGUMENT, "State", Checks.STATE,
        "Index", Checks.INDEX, "Element", Checks.ELEMENT, "Arithmetic", Checks.ARITHMETIC);
    private static final int MOST_CHANGES = 8;
    private static final List<Call> NOTHING = List.of();
    private static final List<Call> UNDO = List.of(new Call("undo"));
    private static final List<Call> SAVE = List.of(new Call("save"));
    private static final List<Call> RESTORE = List.of(new Call("restore"));

    private final Checks checks;
    private final Map<String, String> seenOfRun = new HashMap<>();
    private List<Call> run = new ArrayList<>();
    private List<Call> runBehindSave = new ArrayList<>();
    private String sentence = "";

    Rows(String test) {
        checks = new Checks(test);
    }

    /** One test: what the document says, and rows on one new floor. */
    void test(String said, String... rows) {
        sentence = said;
        run = new ArrayList<>();
        seenOfRun.clear();
        for (String block : rows) {
            for (String line : block.split("\n")) {
                if (!line.isBlank()) {
                    checkRow(line.strip());
                }
            }
        }
    }

    /** A check that needs more than one floor. */
    void due(String what, Object want, Object got) {
        checks.due(what, want, () -> got);
    }

    void end() {
        checks.end();
    }

    private void checkRow(String line) {
        Matcher row = ROW.matcher(line);
        if (!row.matches()) {
            throw new AssertionError("this is no row: " + line);
        }
        List<Call> calls = callsOf(row.group(1), row.group(2));
        List<Call> after = joined(run, calls);
        Subject x = Subject.behind(after.subList(0, after.size() - 1));
        Object answer = x.answer(after.get(after.size() - 1));
        String kind = row.group(3) == null ? "" : row.group(3);
        switch (kind) {
            case "" -> checkSuccess(line, answer);
            case "=" -> checkAnswer(line, row.group(4), answer, calls, after);
            default -> checkException(line, kind, row.group(4), answer, x, after);
        }
        if (isKept(calls)) {
            run = after;
            seenOfRun.clear();
        }
        if (nameOf(calls).equals("save")) {
            runBehindSave = after;
        }
    }

    private static List<Call> callsOf(String name, String told) {
        if (!told.startsWith("\"")) {
            return List.of(Call.read(name, told));
        }
        List<Call> calls = Call.appends(told.substring(1, told.length() - 1));
        if (!name.equals("append")) {
            calls.add(new Call(name));
        }
        return calls;
    }

    private static boolean isKept(List<Call> calls) {
        String name = nameOf(calls);
        return CHANGES.contains(name) || OTHERS.contains(name);
    }

    private static String nameOf(List<Call> calls) {
        return calls.get(calls.size() - 1).name;
    }

    private static boolean isText(List<Call> calls) {
        return Set.of("family", "program").contains(nameOf(calls));
    }

    @SafeVarargs
    private static List<Call> joined(List<Call>... parts) {
        List<Call> all = new ArrayList<>();
        for (List<Call> part : parts) {
            all.addAll(part);
        }
        return all;
    }

    private void rowDue(String what, Object want, Object got) {
        due(sentence + ": " + what, want, got);
    }

    private void checkSuccess(String line, Object answer) {
        rowDue(line + ", an exception", false, answer instanceof Class);
    }

    private void checkAnswer(String line, String told, Object answer, List<Call> calls, List<Call> after) {
        rowDue(line, valueOf(told), answer);
        if (!valueOf(told).equals(answer)) {
            return;
        }
        if (CHANGES.contains(nameOf(calls))) {
            checkChange(line, calls, after);
        } else if (nameOf(calls).equals("append")) {
            same(line, NOTHING, after, NOTHING, Set.of(Seen.CHARACTERS));
        } else if (nameOf(calls).equals("restore")) {
            checkRestored(line, after);
        } else if (!nameOf(calls).equals("undo")) {
            same(line, NOTHING, after, NOTHING, Set.of());
        }
    }

    /** A number as it is printed, a character, or two numbers whose quotient is due. */
    private static Object valueOf(String told) {
        if (told.startsWith("'")) {
            return told.charAt(1);
        }
        String[] words = told.split("/");
        if (told.endsWith("f")) {
            float first = Float.parseFloat(words[0]);
            return words.length > 1 ? first / Float.parseFloat(words[1]) : first;
        }
        if (told.endsWith("d")) {
            double first = Double.parseDouble(words[0]);
            return words.length > 1 ? first / Double.parseDouble(words[1]) : first;
        }
        return Integer.valueOf(told);
    }

    private void checkException(String line, String kind, String told, Object answer, Subject x, List<Call> after) {
        Set<String> hidden = new HashSet<>();
        boolean isText = isText(after);
        if (isText) {
            hidden.addAll(Set.of(Seen.CHARACTERS, Seen.FAULT));
            rowDue(line + ", then the fault", kind.equals("fault") ? valueOf(told) : -1, x.answer("faultPosition"));
            rowDue(line + ", then the characters", 0, x.answer("account", 14));
        }
        if (kind.equals("refused")) {
            hidden.add(Seen.REASONS);
            rowDue(line, Checks.REFUSED, answer);
            rowDue(line + ", then the reasons", told, Seen.reasons(x));
            checkReasons(line, told, after);
        } else {
            rowDue(line, kind.equals("fault") ? Checks.ARGUMENT : EXCEPTIONS.get(told), answer);
        }
        checkNothingChanged(line, after, hidden);
    }

    /** The reasons are due behind any others, even if the row before was refused for the same ones. */
    private void checkReasons(String line, String told, List<Call> after) {
        Call other = told.startsWith("2.") ? new Call("mount", -1) : new Call("colour", -1);
        Subject x = Subject.behind(run);
        x.answer(other);
        for (Call call : after.subList(run.size(), after.size())) {
            x.answer(call);
        }
        rowDue(line + ", then the reasons behind others", told, Seen.reasons(x));
    }

    private void checkNothingChanged(String line, List<Call> after, Set<String> hidden) {
        same(line, NOTHING, after, NOTHING, hidden);
        int changes = Subject.behind(run).number("account", 13);
        for (int undone = 1; undone <= changes; undone++) {
            List<Call> undos = Collections.nCopies(undone, UNDO.get(0));
            same(line + ", then undo", undos, after, undos, hidden);
        }
        same(line + ", then restore", RESTORE, after, RESTORE, hidden);
        if (!hidden.contains(Seen.CHARACTERS)) {
            same(line + ", then program", List.of(new Call("program")), after, List.of(new Call("program")), hidden);
            same(line + ", then family", List.of(new Call("family")), after, List.of(new Call("family")), hidden);
        }
        rowDue(line + ", then the minutes to the end of the week", minutesToEnd(run), minutesToEnd(after));
    }

    private void checkChange(String line, List<Call> calls, List<Call> after) {
        Set<String> hidden = new HashSet<>();
        if (isText(calls)) {
            hidden.addAll(Set.of(Seen.CHARACTERS, Seen.FAULT));
        }
        int changes = Subject.behind(run).number("account", 13);
        rowDue(line + ", then the changes", Math.min(changes + 1, MOST_CHANGES), Subject.behind(after).number("account", 13));
        Set<String> withoutChanges = new HashSet<>(hidden);
        withoutChanges.add(Seen.CHANGES);
        Set<String> hiddenByUndo = changes < MOST_CHANGES ? hidden : withoutChanges;
        same(line + ", then undo", NOTHING, joined(after, UNDO), NOTHING, hiddenByUndo);
        rowDue(line + ", then undo and the minutes to the end of the week", minutesToEnd(run),
            minutesToEnd(joined(after, UNDO)));
        List<Call> restored = joined(run, SAVE, calls, RESTORE);
        same(line + " between save and restore", NOTHING, restored, NOTHING, withoutChanges);
        rowDue(line + ", then restore and the changes", 0, Subject.behind(restored).number("account", 13));
        if (!isText(calls) || calls.size() > 1) {
            List<Call> again = joined(after, UNDO, calls);
            for (int section = 0; section < Seen.SECTIONS; section++) {
                alike(line + ", then undo and again", seen(after, NOTHING, section, hidden),
                    seen(again, NOTHING, section, hidden));
            }
        }
    }

    private void checkRestored(String line, List<Call> after) {
        Set<String> hidden = Set.of(Seen.CHANGES, Seen.CHARACTERS, Seen.FAULT, Seen.REASONS);
        for (int section = 0; section < Seen.SECTIONS; section++) {
            alike(line + ", then what was saved", seen(runBehindSave, NOTHING, section, hidden),
                seen(after, NOTHING, section, hidden));
        }
        rowDue(line + ", then the changes", 0, Subject.behind(after).number("account", 13));
        rowDue(line + ", then the minutes to the end of the week", minutesToEnd(runBehindSave), minutesToEnd(after));
    }

    /** What is seen behind the rows so far and some calls is what is seen behind others. */
    private void same(String what, List<Call> behindRun, List<Call> after, List<Call> behindAfter, Set<String> hidden) {
        for (int section = 0; section < Seen.SECTIONS; section++) {
            String key = behindRun.size() + (behindRun.isEmpty() ? "" : nameOf(behindRun)) + section + hidden;
            String before = seenOfRun.get(key);
            if (before == null) {
                before = seen(run, behindRun, section, hidden);
                seenOfRun.put(key, before);
            }
            alike(what + ", then what can be asked", before, seen(after, behindAfter, section, hidden));
        }
    }

    /** Where two floors differ, only that is printed. */
    private void alike(String what, String want, String got) {
        if (want.equals(got)) {
            rowDue(what, want, got);
            return;
        }
        List<String> wanted = new ArrayList<>(List.of(want.split("; ")));
        List<String> left = new ArrayList<>(List.of(got.split("; ")));
        left.removeAll(wanted);
        wanted.removeAll(List.of(got.split("; ")));
        rowDue(what, "instead " + wanted, left.toString());
    }

    private static String seen(List<Call> calls, List<Call> more, int section, Set<String> hidden) {
        Subject x = Subject.behind(calls);
        StringBuilder told = new StringBuilder();
        for (Call call : more) {
            told.append(x.answer(call)).append("; ");
        }
        return told + Seen.of(x, section, hidden);
    }

    /** The fewest minutes of a pause by which a week ends, or 1000. */
    private static int minutesToEnd(List<Call> calls) {
        int least = 1;
        int most = 1000;
        while (least < most) {
            int middle = (least + most) / 2;
            if (Subject.behind(calls).number("pause", middle) > 0) {
                most = middle;
            } else {
                least = middle + 1;
            }
        }
        return least;
    }
}
