import java.io.IOException;
import java.nio.file.Files;
import java.nio.file.Path;
import java.util.HashSet;
import java.util.Map;
import java.util.Set;
import java.util.TreeMap;
import java.util.TreeSet;
import java.util.regex.Matcher;
import java.util.regex.Pattern;

/** The program keeps to the rules of shared/LANGUAGE.md, as far as a look at its text can tell. */
public final class LanguageTest {
    private static final Checks CHECKS = new Checks("LanguageTest");
    private static final Path PROGRAM = Path.of("src/main/java/MouldFloor.java");
    private static final int LONGEST_METHOD = 60;
    private static final int MOST_PARAMETERS = 7;
    private static final int DEEPEST_CALLS = 8;
    private static final String[] FORBIDDEN = {
        "->", "::", "\\w+Exact\\b", "\\bfinally\\b", "\\bsynchronized\\b", "\\bassert\\b", "\\bprotected\\b",
        "\\brecord\\b", "\\btry\\b", "\\bcatch\\b", "\\bthis\\b", "\\bnull\\b", "\\bvar\\b", "\\bpackage\\b",
        "\\bstatic\\s*\\{", "\"\\s*\\+", "\\+\\s*\"", "\\bString\\b", "\\bObject\\b", "\\bThread\\b", "\\bRandom\\b",
        "\\b(equals|hashCode|toString|getMessage|getClass|printStackTrace)\\b", "\\[\\]\\s*\\[\\]", "\\.\\.\\.",
    };
    private static final String[] LIBRARY = {
        "Math.max", "Math.min", "Integer.bitCount", "System.arraycopy",
    };

    public static void main(String[] args) throws IOException {
        String told = Files.readString(PROGRAM);
        CHECKS.due("signs from 1 to 127", true, () -> told.chars().allMatch(sign -> sign > 0 && sign < 128));
        String code = codeOf(told);
        for (String forbidden : FORBIDDEN) {
            CHECKS.due("what is found of " + forbidden, "", () -> found(forbidden, code));
        }
        CHECKS.due("imports", "import java.util.NoSuchElementException;", () -> found("import [^;]*;", code));
        CHECKS.due("static fields that are not final", "", () -> found("\\bstatic (?!final )[^(;{]*[;=]", code));
        CHECKS.due("library", "", () -> libraryOutside(code));
        CHECKS.due("exceptions", "", () -> found("throw new (?!(IllegalState|IllegalArgument|IndexOutOfBounds|Arithmetic"
            + "|UnsupportedOperation|NoSuchElement)Exception\\(\"\"\\);).*", code));
        CHECKS.due("throws of anything else", "", () -> found("throw (?!new ).*", code));
        CHECKS.due("methods that are too long", "", () -> longMethods(code));
        CHECKS.due("methods with too many parameters", "",
            () -> found("\\((?:\\w+(?:\\[\\])? \\w+, ){" + MOST_PARAMETERS + "}[^)]*\\)", code));
        CHECKS.due("static rows that are changed", "", () -> found("\\b[A-Z_]{2,}\\[[^\\]]*\\]\\s*([-+*/|&^]?=(?!=)|\\+\\+|--).*",
            code));
        CHECKS.due("loops without a bound", "", () -> found("while \\(true\\)|for \\([^;]*; *;[^)]*\\)", code));
        CHECKS.due("what is made beside fields and exceptions", "floors[room] = new Floor();", () -> madeInCalls(code));
        CHECKS.due("methods that call themselves", "copyFrom, tried", () -> callingThemselves(code));
        CHECKS.due("calls are at most eight deep", true, () -> deepestCalls(code) <= DEEPEST_CALLS);
        CHECKS.end();
    }

    /** The program without comments and without what stands in its texts. */
    private static String codeOf(String told) {
        String code = told.replaceAll("\"[^\"\n]*\"", "\"\"").replaceAll("'[^']'", "''");
        return Pattern.compile("/\\*.*?\\*/", Pattern.DOTALL).matcher(code).replaceAll("").replaceAll("//.*", "");
    }

    private static String found(String pattern, String code) {
        Set<String> all = new TreeSet<>();
        Matcher matcher = Pattern.compile(pattern).matcher(code);
        while (matcher.find()) {
            all.add(matcher.group());
        }
        return String.join(", ", all);
    }

    private static String libraryOutside(String code) {
        String rest = code;
        for (String call : LIBRARY) {
            rest = rest.replace(call, "");
        }
        return found("\\b(Math|Integer|Long|System|Arrays|Character|java)\\.\\w+", rest.replaceAll("import [^;]*;", "")
            .replaceAll("Integer\\.M(AX|IN)_VALUE", ""));
    }

    /** A method begins with a brace at the end of a line that is indented by 4 or 8, and ends with one that is as deep. */
    private static String longMethods(String code) {
        StringBuilder told = new StringBuilder();
        for (String indent : new String[] {"    ", "        "}) {
            Matcher matcher = Pattern.compile("(?m)^" + indent + "(?! |.*\\bclass\\b)[^\n]*\\([^;]*?\\{\n((?:.*\n)*?)" + indent
                + "\\}$").matcher(code);
            while (matcher.find()) {
                if (matcher.group(1).lines().count() > LONGEST_METHOD) {
                    told.append(matcher.group(), 0, 50).append("; ");
                }
            }
        }
        return told.toString();
    }

    /** Fields are made with their object: so no call makes anything but the exception that it throws. */
    private static String madeInCalls(String code) {
        StringBuilder left = new StringBuilder();
        for (String line : code.split("\n")) {
            boolean isField = line.matches(" +(private )?final [\\w\\[\\]]+ \\w+ = .*");
            left.append(isField || line.contains("throw new ") ? "" : line.strip()).append('\n');
        }
        return found("(?m)^.*\\bnew\\b.*$", left.toString());
    }

    /** By the names of the methods, with what is called in those that bear them. */
    private static Map<String, Set<String>> callsOf(String code) {
        Map<String, Set<String>> calls = new TreeMap<>();
        Matcher method = Pattern.compile("(?m)^( {4}| {8})(?! )[\\w ]*?(\\w+)\\([^;]*?\\{\n((?:.*\n)*?)\\1\\}$").matcher(code);
        while (method.find()) {
            Set<String> called = calls.computeIfAbsent(method.group(2), name -> new HashSet<>());
            Matcher call = Pattern.compile("(\\w+)\\(").matcher(method.group(3));
            while (call.find()) {
                called.add(call.group(1));
            }
        }
        calls.values().forEach(called -> called.retainAll(calls.keySet()));
        return calls;
    }

    /** Of the floor and of its parts each has a copyFrom, so that this name stands for two depths. */
    private static String callingThemselves(String code) {
        Map<String, Set<String>> calls = callsOf(code);
        Set<String> names = new TreeSet<>(calls.keySet());
        names.removeIf(name -> !calls.get(name).contains(name));
        return String.join(", ", names);
    }

    private static int deepestCalls(String code) {
        Map<String, Set<String>> calls = callsOf(code);
        int deepest = 0;
        for (String name : calls.keySet()) {
            deepest = Math.max(deepest, depthOf(name, calls, 1));
        }
        return deepest;
    }

    private static int depthOf(String name, Map<String, Set<String>> calls, int depth) {
        int own = depth + (name.equals("copyFrom") ? 1 : 0);
        int deepest = own;
        for (String called : calls.get(name)) {
            if (depth <= DEEPEST_CALLS && !called.equals(name)) {
                deepest = Math.max(deepest, depthOf(called, calls, own + 1));
            }
        }
        return deepest;
    }
}
