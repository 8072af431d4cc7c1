import java.io.IOException;
import java.lang.reflect.Method;
import java.lang.reflect.Modifier;
import java.net.URL;
import java.net.URLClassLoader;
import java.nio.file.Files;
import java.nio.file.Path;
import java.util.ArrayList;
import java.util.Comparator;
import java.util.List;
import java.util.regex.Matcher;
import java.util.regex.Pattern;
import java.util.stream.Stream;
import javax.tools.JavaCompiler;
import javax.tools.ToolProvider;

/**
 * README.md: its blocks of Java are compiled as they stand, and each call with an answer behind it must answer so.
 * Each method of the face must be shown so, and each test and each path that is named must be there.
 */
public final class ReadmeTest {
    private static final Path README = Path.of("README.md");
    private static final Path TESTS = Path.of("src", "test", "java");
    private static final Pattern ANSWERED = Pattern.compile("(x\\.([a-zA-Z]+)\\(.*\\)); +// ([^:]+)(: .*)?");
    private static final Pattern QUOTED = Pattern.compile("`([^`]+)`");
    private static final String QUOTE = "\"";

    private ReadmeTest() {
    }

    public static void main(String[] args) throws Exception {
        String text = Files.readString(README);
        List<String[]> answers = answers(program(blocks(text)));
        for (String[] answer : answers) {
            Check.due("README.md: " + answer[0], answer[1], answer[2]);
        }
        everyMethod(answers);
        everyTest(text);
        everyPath(withoutBlocks(text));
        Check.end();
    }

    private static List<List<String>> blocks(String text) {
        List<List<String>> all = new ArrayList<>();
        boolean inside = false;
        for (String line : text.lines().toList()) {
            if (line.equals("```java")) {
                all.add(new ArrayList<>());
                inside = true;
            } else if (line.equals("```")) {
                inside = false;
            } else if (inside) {
                all.get(all.size() - 1).add(line);
            }
        }
        return all;
    }

    private static String withoutBlocks(String text) {
        StringBuilder rest = new StringBuilder();
        boolean inside = false;
        for (String line : text.lines().toList()) {
            boolean isFence = line.startsWith("```");
            inside ^= isFence;
            rest.append(inside || isFence ? "" : line).append('\n');
        }
        return rest.toString();
    }

    /** A class that keeps, for each answered call, its text, what it answered, and what is due. */
    private static String program(List<List<String>> blocks) {
        StringBuilder source = new StringBuilder("public final class Shown {\n");
        source.append("public static final java.util.List<String[]> ANSWERS = new java.util.ArrayList<>();\n");
        StringBuilder calls = new StringBuilder("public static void run() {\n");
        for (int k = 0; k < blocks.size(); k++) {
            boolean isMethod = blocks.get(k).get(0).startsWith("static ");
            source.append(isMethod ? "" : "private static void block" + k + "() {\n");
            for (String line : blocks.get(k)) {
                source.append(isMethod ? line : checked(line)).append('\n');
            }
            source.append(isMethod ? "" : "}\n");
            calls.append(isMethod ? "" : "block" + k + "();\n");
        }
        return source.append(calls).append("}\n}\n").toString();
    }

    private static String checked(String line) {
        Matcher call = ANSWERED.matcher(line);
        if (!call.matches()) {
            Check.due("README.md, a call with a comment that is no answer: " + line, line.contains("//"), false);
            return line;
        }
        String begin = "ANSWERS.add(new String[] {" + QUOTE + call.group(1).replace(QUOTE, "'") + QUOTE + ", ";
        String end = ", " + QUOTE + call.group(3).trim() + QUOTE + "});";
        return "try { " + begin + "String.valueOf(" + call.group(1) + ")" + end + " } catch (RuntimeException e) { "
                + begin + QUOTE + "throws " + QUOTE + " + e.getClass().getSimpleName()" + end + " }";
    }

    private static List<String[]> answers(String program) throws Exception {
        Path place = Files.createTempDirectory("readme");
        try {
            Path source = place.resolve("Shown.java");
            Files.writeString(source, program);
            JavaCompiler compiler = ToolProvider.getSystemJavaCompiler();
            int failed = compiler.run(null, System.out, System.out, "-encoding", "UTF-8", "-d", place.toString(),
                    "-cp", System.getProperty("java.class.path"), source.toString());
            Check.due("README.md is compiled", failed, 0);
            return failed == 0 ? run(place) : List.of();
        } finally {
            remove(place);
        }
    }

    private static List<String[]> run(Path place) throws Exception {
        URL[] where = {place.toUri().toURL()};
        try (URLClassLoader loader = new URLClassLoader(where, ReadmeTest.class.getClassLoader())) {
            Class<?> shown = loader.loadClass("Shown");
            shown.getMethod("run").invoke(null);
            List<String[]> all = new ArrayList<>();
            for (Object answer : (List<?>) shown.getField("ANSWERS").get(null)) {
                all.add((String[]) answer);
            }
            return all;
        }
    }

    private static void remove(Path place) throws IOException {
        try (Stream<Path> files = Files.walk(place)) {
            for (Path file : files.sorted(Comparator.reverseOrder()).toList()) {
                Files.delete(file);
            }
        }
    }

    private static void everyMethod(List<String[]> answers) {
        for (Method method : MergeWorkbench.class.getDeclaredMethods()) {
            if (Modifier.isPublic(method.getModifiers())) {
                String call = "x." + method.getName() + "(";
                Check.due("README.md shows " + call + ")",
                        answers.stream().anyMatch(answer -> answer[0].startsWith(call)), true);
            }
        }
    }

    private static void everyTest(String text) throws IOException {
        try (Stream<Path> files = Files.list(TESTS)) {
            for (Path file : files.filter(Files::isRegularFile).toList()) {
                String name = file.getFileName().toString().replace(".java", "");
                Check.due("README.md names " + name, text.contains("`" + name + "`"), true);
            }
        }
    }

    /** What is quoted and has a slash is a path; what ends with Test is a test. */
    private static void everyPath(String text) {
        Matcher quoted = QUOTED.matcher(text);
        while (quoted.find()) {
            String name = quoted.group(1);
            if (name.contains("/") && !name.contains("\n")) {
                Check.due(name + " is there", Files.exists(Path.of(name)), true);
            } else if (name.endsWith("Test") && !name.equals("EdgeTest")) {
                Check.due(name + " is there", Files.exists(TESTS.resolve(name + ".java")), true);
            }
        }
        Check.due(".ci/run can be run", text.contains("    .ci/run\n") && Files.isExecutable(Path.of(".ci", "run")),
                true);
    }
}
