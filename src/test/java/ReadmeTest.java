import java.io.IOException;
import java.lang.reflect.Method;
import java.lang.reflect.Modifier;
import java.net.URL;
import java.net.URLClassLoader;
import java.nio.file.Files;
import java.nio.file.Path;
import java.util.ArrayList;
import java.util.Comparator;
import java.util.List;
import java.util.Set;
import java.util.TreeSet;
import java.util.regex.Matcher;
import java.util.regex.Pattern;
import java.util.stream.Stream;
import javax.tools.ToolProvider;

/**
 * The program that README.md shows: made of its java blocks in their order, compiled together with the class as the page
 * says, and run; each call must answer what the page says behind it. The class is the first argument, the page the third.
 */
public final class ReadmeTest {
    private static final Pattern BLOCK = Pattern.compile("(?ms)^```java\n(.*?)^```$");
    private static final Pattern CALL = Pattern.compile("x\\.(\\w+)\\(([\\w, .-]*)\\);");
    private static final Pattern CALLS = Pattern.compile("((?:" + CALL.pattern() + " *)+)// (-?\\d+(?:, -?\\d+)*)(?:: \\S.*)?");
    private static final Pattern PUT = Pattern.compile("put\\(x, \"[^\"\\\\]*\"\\);");

    private final List<String> complaints = new ArrayList<>();
    private final StringBuilder members = new StringBuilder();
    private final StringBuilder body = new StringBuilder();
    private final Set<String> shown = new TreeSet<>();
    private int calls = 0;

    private void readBlock(String block) {
        if (block.startsWith("static ")) {
            members.append(block);
            return;
        }
        for (String line : block.split("\n")) readLine(line.strip());
    }

    private void readLine(String line) {
        Matcher told = CALLS.matcher(line);
        if (line.equals("BecauseOf x = new BecauseOf();") || PUT.matcher(line).matches()) {
            body.append(line).append('\n');
        } else if (told.matches()) {
            readCalls(line, told.group(1), told.group(4).split(", "));
        } else {
            complaints.add("neither a call with its answer nor a text put on the TAPE: " + line);
        }
    }

    private void readCalls(String line, String made, String[] answers) {
        Matcher call = CALL.matcher(made);
        int many = 0;
        while (call.find()) {
            if (many < answers.length) {
                String text = call.group().replace(";", "");
                body.append("due.add(\"").append(text).append("\"); got.add(Long.valueOf(").append(text)
                        .append(")); want.add(").append(answers[many]).append("L);\n");
            }
            shown.add(call.group(1));
            many++;
        }
        calls += many;
        if (many != answers.length) complaints.add(many + " calls, " + answers.length + " answers: " + line);
    }

    private String program() {
        return "import java.util.List;\npublic final class ReadmeCalls {\n" + members
                + "public static void run(List<String> due, List<Long> got, List<Long> want) {\n" + body + "}\n}\n";
    }

    private void compileAndRun(Path source, Path folder) throws Exception {
        Path program = Files.writeString(folder.resolve("ReadmeCalls.java"), program());
        Path beside = Files.copy(source, folder.resolve("BecauseOf.java"));
        int status = ToolProvider.getSystemJavaCompiler().run(null, null, null, "-Xlint:all", "-Werror",
                "-cp", folder.toString(), "-d", folder.toString(), program.toString(), beside.toString());
        if (status != 0) {
            complaints.add("the program of README.md can't be compiled");
            return;
        }
        List<String> due = new ArrayList<>();
        List<Long> got = new ArrayList<>();
        List<Long> want = new ArrayList<>();
        ClassLoader above = ClassLoader.getPlatformClassLoader();
        try (URLClassLoader loader = new URLClassLoader(new URL[] {folder.toUri().toURL()}, above)) {
            Method run = loader.loadClass("ReadmeCalls").getMethod("run", List.class, List.class, List.class);
            run.invoke(null, due, got, want);
        }
        for (int i = 0; i < due.size(); i++) {
            if (!got.get(i).equals(want.get(i))) {
                complaints.add(due.get(i) + " answered " + got.get(i) + ", README.md says " + want.get(i));
            }
        }
        if (due.size() != calls) complaints.add(due.size() + " of " + calls + " calls were run");
    }

    private void lookWhetherAllIsShown(String page) {
        for (Method m : BecauseOf.class.getDeclaredMethods()) {
            if (Modifier.isPublic(m.getModifiers()) && !shown.contains(m.getName())) {
                complaints.add("README.md doesn't show how to use " + m.getName());
            }
        }
        if (calls > 512) complaints.add("README.md shows more calls than an object is good for");
        if (!page.contains("BecauseOf.NONE")) complaints.add("README.md doesn't show how to use NONE");
        if (!page.contains("\n    bash .ci/run\n") || !Files.isExecutable(Path.of(".ci/run"))) {
            complaints.add("README.md doesn't say how to run the tests");
        }
        for (String test : tests()) {
            if (!page.contains("- `" + test + "`")) complaints.add("README.md doesn't name " + test);
        }
    }

    private static List<String> tests() {
        try (Stream<Path> all = Files.list(Path.of("src/test/java"))) {
            return all.map(p -> p.getFileName().toString()).filter(n -> n.endsWith("Test.java"))
                    .map(n -> n.replace(".java", "")).sorted().toList();
        } catch (IOException e) {
            return List.of("any test");
        }
    }

    private static void delete(Path folder) throws IOException {
        try (Stream<Path> all = Files.walk(folder)) {
            for (Path p : all.sorted(Comparator.reverseOrder()).toList()) Files.delete(p);
        }
    }

    public static void main(String[] args) throws Exception {
        String page = Files.readString(Path.of(args[2]));
        ReadmeTest test = new ReadmeTest();
        Matcher block = BLOCK.matcher(page);
        while (block.find()) test.readBlock(block.group(1));
        Path folder = Files.createTempDirectory("readme");
        try {
            test.compileAndRun(Path.of(args[0]), folder);
        } finally {
            delete(folder);
        }
        test.lookWhetherAllIsShown(page);
        test.complaints.forEach(System.out::println);
        System.out.println(test.calls + " calls of README.md, " + test.complaints.size() + " complaints");
        if (!test.complaints.isEmpty()) System.exit(1);
    }
}
