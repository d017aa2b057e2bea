import java.io.IOException;
import java.lang.reflect.Field;
import java.lang.reflect.Method;
import java.lang.reflect.Modifier;
import java.net.URL;
import java.net.URLClassLoader;
import java.nio.file.Files;
import java.nio.file.Path;
import java.util.ArrayList;
import java.util.List;
import java.util.Set;
import java.util.TreeSet;
import java.util.regex.Matcher;
import java.util.regex.Pattern;
import java.util.stream.Stream;
import javax.tools.JavaCompiler;
import javax.tools.ToolProvider;

/** What README.md says of use and of the tests: its calls are compiled and made, its names looked for. */
public final class ReadmeTest {
    private static final Check check = new Check();
    private static final Path README = Path.of("README.md"), TESTS = Path.of("src/test/java");
    private static final Pattern BLOCK = Pattern.compile("(?ms)^```java\\n(.*?)^```$");
    private static final Pattern CALL = Pattern.compile("(council\\.(\\w+)\\(.*\\));\\s*// (-?\\d+)\\b.*");

    private static final List<String> calls = new ArrayList<>();
    private static final List<Long> answersDue = new ArrayList<>();
    private static final Set<String> called = new TreeSet<>();

    private static void holds(String what, boolean holds) {
        check.due(what, holds ? 1 : 0, 1);
    }

    /** All blocks, one behind the other, as one program that keeps what the calls answer. */
    private static String program(String readme) {
        StringBuilder program = new StringBuilder("public final class ReadmeCalls {\n"
            + "    public static void make(java.util.List<Long> answers) {\n");
        Matcher block = BLOCK.matcher(readme);
        while (block.find()) {
            for (String line : block.group(1).split("\n")) {
                program.append(line(line)).append('\n');
            }
        }
        return program.append("    }\n}\n").toString();
    }

    private static String line(String line) {
        Matcher call = CALL.matcher(line);
        if (!call.matches()) {
            holds("README's <" + line + "> is read", !line.contains("//"));
            return line;
        }
        calls.add(call.group(1));
        called.add(call.group(2));
        answersDue.add(Long.parseLong(call.group(3)));
        return "answers.add((long) " + call.group(1) + ");";
    }

    /** With MinuteForTheUnread's source beside it, as README.md says. */
    private static List<Long> answers(String program, String source) throws Exception {
        List<Long> answers = new ArrayList<>();
        Path out = Files.createTempDirectory("readme");
        try {
            Path file = Files.writeString(out.resolve("ReadmeCalls.java"), program);
            JavaCompiler compiler = ToolProvider.getSystemJavaCompiler();
            boolean stands = compiler != null
                && compiler.run(null, null, null, "-d", out.toString(), source, file.toString()) == 0;
            holds("README's program is compiled", stands);
            if (stands) {
                make(out, answers);
            }
        } finally {
            deleteAll(out);
        }
        return answers;
    }

    private static void make(Path out, List<Long> answers) throws Exception {
        try (URLClassLoader loader = new URLClassLoader(new URL[] {out.toUri().toURL()}, null)) {
            loader.loadClass("ReadmeCalls").getMethod("make", List.class).invoke(null, answers);
        }
    }

    private static void deleteAll(Path directory) throws IOException {
        try (Stream<Path> files = Files.list(directory)) {
            for (Path file : files.toList()) {
                Files.delete(file);
            }
        }
        Files.delete(directory);
    }

    private static void use(String readme, String source) throws Exception {
        List<Long> answers = answers(program(readme), source);
        holds("all of README's " + calls.size() + " calls answer", answers.size() == calls.size());
        for (int i = 0; i < answers.size() && i < calls.size(); i++) {
            check.due(calls.get(i), answers.get(i), answersDue.get(i));
        }
    }

    private static void face(String readme) throws IllegalAccessException {
        for (Method m : MinuteForTheUnread.class.getDeclaredMethods()) {
            if (Modifier.isPublic(m.getModifiers())) {
                holds("README shows what " + m.getName() + "() answers", called.contains(m.getName()));
            }
        }
        for (Field f : MinuteForTheUnread.class.getDeclaredFields()) {
            if (Modifier.isPublic(f.getModifiers())) {
                String named = "`" + f.getName() + "` (" + f.get(null) + ")";
                holds("README names " + named, readme.contains(named));
            }
        }
    }

    /** Each test has a line of README.md's list, and each line has its test. */
    private static void tests(String readme) throws IOException {
        Set<String> due = new TreeSet<>();
        try (Stream<Path> files = Files.list(TESTS)) {
            files.map(f -> f.getFileName().toString()).filter(f -> f.endsWith("Test.java"))
                .forEach(f -> due.add(f.substring(0, f.length() - ".java".length())));
        }
        Set<String> named = new TreeSet<>();
        String howToRun = readme.substring(readme.indexOf("## How to run its tests"));
        Matcher name = Pattern.compile("`(\\w+Test)`").matcher(howToRun);
        while (name.find()) {
            named.add(name.group(1));
        }
        holds("README names the tests " + due + ", here " + named, named.equals(due));
        holds("README tells how tests are run", howToRun.contains("```sh\n.ci/run\n```"));
        holds(".ci/run is executable", Files.isExecutable(Path.of(".ci/run")));
    }

    public static void main(String[] args) throws Exception {
        check.about("README.md");
        String readme = Files.readString(README);
        use(readme, args[0]);
        face(readme);
        tests(readme);
        check.close("ReadmeTest");
    }
}
