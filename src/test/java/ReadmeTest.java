import java.lang.reflect.Method;
import java.lang.reflect.Modifier;
import java.net.URL;
import java.net.URLClassLoader;
import java.nio.charset.StandardCharsets;
import java.nio.file.DirectoryStream;
import java.nio.file.Files;
import java.nio.file.Path;
import java.util.ArrayList;
import java.util.Comparator;
import java.util.List;
import java.util.regex.Matcher;
import java.util.regex.Pattern;
import java.util.stream.Stream;
import javax.tools.JavaCompiler;
import javax.tools.ToolProvider;

/** README.md's examples are compiled and run as they stand there; and it leaves out no call, class or test. */
public final class ReadmeTest {
    private static final Pattern BLOCK = Pattern.compile("(?ms)^```(\\w+)\n(.*?)^```$");
    private static final Pattern CALL = Pattern.compile("(x\\.\\w+\\(.*\\)); +// (-?\\d+)(:.*)?");
    private static final Pattern OTHER = Pattern.compile("NobodyTwice x = new NobodyTwice\\(\\);|for \\(char c : .*\\) x\\.type\\(c\\);");

    private static int wrong = 0;
    private static int calls = 0;

    public static void main(String[] args) throws Exception {
        String readme = Files.readString(Path.of("README.md"), StandardCharsets.UTF_8);
        List<String> examples = examplesOf(readme);
        runExamples(examples);
        lookAtNames(readme, String.join("", examples));
        lookAtCommands(readme);
        System.out.println(wrong == 0 ? calls + " calls of README.md are as it says" : wrong + " things are not as README.md says");
        if (wrong != 0) {
            System.exit(1);
        }
    }

    private static void broken(String what) {
        wrong++;
        System.out.println(what);
    }

    private static List<String> examplesOf(String readme) {
        List<String> examples = new ArrayList<>();
        Matcher block = BLOCK.matcher(readme);
        while (block.find()) {
            if (block.group(1).equals("java")) {
                examples.add(block.group(2));
            }
        }
        if (examples.isEmpty()) {
            broken("README.md has no example");
        }
        return examples;
    }

    /** Each call with its answer; a line that shows none, or that is no call, must be one of the few others. */
    private static String methodOf(String example) {
        StringBuilder body = new StringBuilder();
        for (String line : example.split("\n")) {
            Matcher call = CALL.matcher(line);
            if (call.matches()) {
                calls++;
                body.append("answer = ").append(call.group(1)).append(";\n").append("if (answer != ").append(call.group(2))
                    .append("L) wrong.add(\"").append(call.group(1)).append(" does not answer ").append(call.group(2))
                    .append(", but \" + answer);\n");
            } else if (OTHER.matcher(line).matches()) {
                body.append(line).append('\n');
            } else {
                broken("a line without an answer: " + line);
            }
        }
        return body.toString();
    }

    private static void runExamples(List<String> examples) throws Exception {
        StringBuilder source = new StringBuilder("public final class Examples {\n"
            + "public static void run(java.util.List<String> wrong) {\nlong answer;\n");
        for (String example : examples) {
            source.append("{\n").append(methodOf(example)).append("}\n");
        }
        source.append("}\n}\n");
        Path folder = Files.createTempDirectory("readme");
        try {
            Path file = folder.resolve("Examples.java");
            Files.writeString(file, source.toString(), StandardCharsets.UTF_8);
            JavaCompiler compiler = ToolProvider.getSystemJavaCompiler();
            int failed = compiler.run(null, null, null, "--release", "17", "-cp", System.getProperty("java.class.path"),
                "-d", folder.toString(), file.toString());
            if (failed != 0) {
                broken("the examples do not compile");
                return;
            }
            List<String> answers = new ArrayList<>();
            try (URLClassLoader loader = new URLClassLoader(new URL[] {folder.toUri().toURL()})) {
                loader.loadClass("Examples").getMethod("run", List.class).invoke(null, answers);
            }
            answers.forEach(ReadmeTest::broken);
        } finally {
            remove(folder);
        }
    }

    private static void remove(Path folder) throws Exception {
        try (Stream<Path> paths = Files.walk(folder)) {
            for (Path path : paths.sorted(Comparator.reverseOrder()).toList()) {
                Files.delete(path);
            }
        }
    }

    private static void lookAtNames(String readme, String examples) throws Exception {
        for (Method m : NobodyTwice.class.getDeclaredMethods()) {
            if (Modifier.isPublic(m.getModifiers()) && !examples.contains("x." + m.getName() + "(")) {
                broken("no example has " + m.getName());
            }
        }
        for (Class<?> c : NobodyTwice.class.getDeclaredClasses()) {
            if (!readme.contains("`" + c.getSimpleName() + "`")) {
                broken("README.md does not name the class " + c.getSimpleName());
            }
        }
        try (DirectoryStream<Path> tests = Files.newDirectoryStream(Path.of("src/test/java"))) {
            for (Path test : tests) {
                if (!readme.contains("`src/test/java/" + test.getFileName() + "`")) {
                    broken("README.md does not name the test " + test.getFileName());
                }
            }
        }
        Matcher path = Pattern.compile("\\bsrc/[\\w/]+\\.java").matcher(readme);
        while (path.find()) {
            if (!Files.exists(Path.of(path.group()))) {
                broken("README.md names what is not there: " + path.group());
            }
        }
    }

    private static void lookAtCommands(String readme) {
        if (!readme.contains("\n.ci/run\n") || !Files.isExecutable(Path.of(".ci/run"))) {
            broken("the command that runs the tests is not .ci/run");
        }
    }
}
