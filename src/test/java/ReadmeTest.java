import java.io.File;
import java.io.IOException;
import java.io.StringWriter;
import java.lang.reflect.Method;
import java.lang.reflect.Modifier;
import java.net.URL;
import java.net.URLClassLoader;
import java.nio.file.Files;
import java.nio.file.Path;
import java.util.ArrayList;
import java.util.List;
import java.util.Set;
import java.util.TreeSet;
import java.util.regex.Matcher;
import java.util.regex.Pattern;
import java.util.stream.Stream;
import javax.tools.JavaCompiler;
import javax.tools.ToolProvider;

/**
 * README.md says the truth: its Java compiles, each call in it answers what stands behind it, it shows every method of
 * the face, and it names the commands and the tests that there are.
 */
public final class ReadmeTest {
    private static final Checks CHECKS = new Checks("ReadmeTest");
    private static final Path README = Path.of("README.md");
    private static final Path TESTS = Path.of("src/test/java");
    /** A call with its answer, as in "int red = floor.colour(5);   // 0: the shade is 5". */
    private static final Pattern CALL =
        Pattern.compile("\\s*(?:(\\w+ (\\w+)) = )?(floor\\.\\w+\\(.*\\));\\s+// (throws \\w+|[^: ]+)(?:: .*)?");
    private static final Pattern ANY_CALL = Pattern.compile("floor\\.(\\w+)\\(");
    private static final String ASK = """
        interface Call { Object answer(); }
        static void ask(List<String[]> asked, String line, Call call) {
            String got;
            try {
                got = String.valueOf(call.answer());
            } catch (RuntimeException thrown) {
                got = "throws " + thrown.getClass().getSimpleName();
            }
            asked.add(new String[] {line, got});
        }
        """;

    public static void main(String[] args) throws Exception {
        String told = Files.readString(README);
        List<String> blocks = blocksOf(told, "java");
        CHECKS.due("it shows how to use the class", true, () -> blocks.size() > 1);
        CHECKS.due("the methods that it shows", faceOf(MouldFloor.class), () -> shownIn(blocks));
        answersAreDue(blocks);
        commandsAreThere(blocksOf(told, "sh"));
        CHECKS.due("the tests that it names", testsThere(), () -> testsNamedIn(told));
        CHECKS.end();
    }

    private static List<String> blocksOf(String told, String language) {
        List<String> blocks = new ArrayList<>();
        Matcher block = Pattern.compile("```" + language + "\n(.*?)```", Pattern.DOTALL).matcher(told);
        while (block.find()) {
            blocks.add(block.group(1));
        }
        return blocks;
    }

    private static Set<String> faceOf(Class<?> type) {
        Set<String> names = new TreeSet<>();
        for (Method method : type.getDeclaredMethods()) {
            if (Modifier.isPublic(method.getModifiers())) {
                names.add(method.getName());
            }
        }
        return names;
    }

    private static Set<String> shownIn(List<String> blocks) {
        Set<String> names = new TreeSet<>();
        Matcher call = ANY_CALL.matcher(String.join("", blocks));
        while (call.find()) {
            names.add(call.group(1));
        }
        return names;
    }

    private static void answersAreDue(List<String> blocks) throws Exception {
        List<String> wanted = new ArrayList<>();
        List<?> asked = answersOf(programOf(blocks, wanted));
        CHECKS.due("every call is asked", wanted.size(), asked::size);
        for (int place = 0; place < Math.min(wanted.size(), asked.size()); place++) {
            String[] answer = (String[]) asked.get(place);
            CHECKS.due(answer[0], wanted.get(place), () -> answer[1]);
        }
    }

    /** A class of the blocks: methods as they stand, all else one after the other, and behind each call what it answers. */
    private static String programOf(List<String> blocks, List<String> wanted) {
        StringBuilder methods = new StringBuilder();
        StringBuilder lines = new StringBuilder();
        for (String block : blocks) {
            if (block.startsWith("static ")) {
                methods.append(block);
                continue;
            }
            for (String line : block.split("\n")) {
                lines.append(asking(line, wanted)).append('\n');
            }
        }
        return "import java.util.*;\npublic final class Readme {\n" + ASK + methods
            + "public static List<String[]> answers() {\nList<String[]> asked = new ArrayList<>();\n" + lines
            + "return asked;\n}\n}\n";
    }

    private static String asking(String line, List<String> wanted) {
        Matcher call = CALL.matcher(line);
        if (!call.matches()) {
            CHECKS.due("a call without its answer: " + line, false, () -> ANY_CALL.matcher(line).find());
            return line;
        }
        wanted.add(call.group(4).replace("'", ""));
        String told = "\"" + call.group(3).replace("\"", "\\\"") + "\"";
        if (call.group(2) == null) {
            return "ask(asked, " + told + ", () -> " + call.group(3) + ");";
        }
        return line + "\nask(asked, " + told + ", () -> " + call.group(2) + ");";
    }

    private static List<?> answersOf(String program) throws Exception {
        Path folder = Files.createTempDirectory("readme");
        Path file = folder.resolve("Readme.java");
        try {
            Files.writeString(file, program);
            if (!isCompiled(file, folder)) {
                return List.of();
            }
            URL[] places = {folder.toUri().toURL()};
            try (URLClassLoader loader = new URLClassLoader(places, ReadmeTest.class.getClassLoader())) {
                return (List<?>) loader.loadClass("Readme").getMethod("answers").invoke(null);
            }
        } finally {
            remove(folder);
        }
    }

    private static boolean isCompiled(Path file, Path folder) {
        JavaCompiler compiler = ToolProvider.getSystemJavaCompiler();
        StringWriter faults = new StringWriter();
        List<String> options = List.of("-cp", System.getProperty("java.class.path"), "-d", folder.toString());
        boolean isRight;
        try (var files = compiler.getStandardFileManager(null, null, null)) {
            isRight = compiler.getTask(faults, files, null, options, null, files.getJavaFileObjects(file)).call();
        } catch (IOException unreadable) {
            throw new AssertionError(unreadable);
        }
        CHECKS.due("what javac says of its Java", "", faults::toString);
        return isRight;
    }

    private static void remove(Path folder) throws IOException {
        try (Stream<Path> files = Files.walk(folder)) {
            files.map(Path::toFile).sorted((a, b) -> b.compareTo(a)).forEach(File::delete);
        }
    }

    /** The last of the commands is the one that runs the tests. */
    private static void commandsAreThere(List<String> blocks) {
        String commands = String.join("", blocks);
        CHECKS.due("the command for the tests", true, () -> commands.endsWith("bash .ci/run\n"));
        CHECKS.due(".ci/run can be executed", true, () -> Files.isExecutable(Path.of(".ci/run")));
        for (String word : commands.split("\\s+")) {
            CHECKS.due("there is " + word, true, () -> !word.contains("/") || Files.exists(Path.of(word)));
        }
    }

    private static Set<String> testsThere() throws IOException {
        Set<String> names = new TreeSet<>();
        try (Stream<Path> files = Files.list(TESTS)) {
            files.map(file -> file.getFileName().toString()).filter(name -> name.endsWith("Test.java"))
                .forEach(name -> names.add(name.replace(".java", "")));
        }
        return names;
    }

    private static Set<String> testsNamedIn(String told) {
        Set<String> names = new TreeSet<>();
        Matcher name = Pattern.compile("`(\\w+Test)`").matcher(told);
        while (name.find()) {
            names.add(name.group(1));
        }
        return names;
    }
}
