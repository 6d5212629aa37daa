import java.io.IOException;
import java.lang.reflect.Method;
import java.lang.reflect.Modifier;
import java.net.URL;
import java.net.URLClassLoader;
import java.nio.file.Files;
import java.nio.file.Path;
import java.util.ArrayList;
import java.util.List;
import java.util.Set;
import java.util.TreeSet;
import java.util.regex.Matcher;
import java.util.regex.Pattern;
import javax.tools.ToolProvider;

/**
 * What README.md says is so: its Java blocks, taken together, are compiled and run, and each call answers what
 * stands behind it, up to the first colon; the files and tests that it names are there.
 */
public final class ReadmeTest {
    private static final Path README = Path.of("README.md");
    private static final Path TESTS = Path.of("src/test/java");

    private static final Pattern BLOCK = Pattern.compile("(?ms)^```java\\n(.*?)^```$");
    private static final Pattern CALL = Pattern.compile("(lister\\.(\\w+)\\(.*\\)); +// (.*)");

    private static int wrong = 0;

    public static void main(String[] args) throws IOException, ReflectiveOperationException {
        String readme = Files.readString(README);
        Set<String> asked = new TreeSet<>();
        runProgram(writeProgram(blocksOf(readme), asked));
        for (Method method : ScopeLister.class.getDeclaredMethods()) {
            boolean isPublic = Modifier.isPublic(method.getModifiers());
            note(!isPublic || asked.contains(method.getName()), "no answer of " + method.getName());
        }
        findNamedFiles(readme);
        findTests();
        Script.exit(wrong);
    }

    private static List<String> blocksOf(String readme) {
        List<String> lines = new ArrayList<>();
        Matcher block = BLOCK.matcher(readme);
        while (block.find()) {
            lines.addAll(block.group(1).lines().toList());
        }
        return lines;
    }

    /** A call that throws must not end the program, so each call with an answer is handed over, not made. */
    private static String writeProgram(List<String> lines, Set<String> asked) {
        StringBuilder program = new StringBuilder("public final class ReadmeProgram {\n");
        program.append("public static void main(String[] args) throws Exception {\n");
        for (String line : lines) {
            Matcher call = CALL.matcher(line);
            if (call.matches()) {
                asked.add(call.group(2));
                String due = call.group(3).split(":", 2)[0];
                program.append("ReadmeTest.compare(() -> ").append(call.group(1)).append(", \"")
                        .append(call.group(1)).append("\", \"").append(due).append("\");\n");
            } else {
                program.append(line).append('\n');
            }
        }
        return program.append("}\n}\n").toString();
    }

    private static void runProgram(String program) throws IOException, ReflectiveOperationException {
        Path folder = Files.createTempDirectory("readme");
        Path source = folder.resolve("ReadmeProgram.java");
        Path compiled = folder.resolve("ReadmeProgram.class");
        Files.writeString(source, program);
        int failed = ToolProvider.getSystemJavaCompiler().run(null, null, null,
                "-cp", System.getProperty("java.class.path"), "-d", folder.toString(), source.toString());
        note(failed == 0, "the blocks do not compile");
        if (failed == 0) {
            try (URLClassLoader loader = new URLClassLoader(new URL[] {folder.toUri().toURL()})) {
                Method main = loader.loadClass("ReadmeProgram").getMethod("main", String[].class);
                main.invoke(null, (Object) new String[0]);
            }
        }
        Files.deleteIfExists(compiled);
        Files.delete(source);
        Files.delete(folder);
    }

    /** A call of the program. */
    public interface Call {
        Object answer();
    }

    public static void compare(Call call, String written, String due) {
        String got;
        try {
            got = String.valueOf(call.answer());
        } catch (RuntimeException e) {
            got = "throws " + e.getClass().getSimpleName();
        }
        note(got.equals(due), written + " answered " + got + ", README.md says " + due);
    }

    private static void findNamedFiles(String readme) {
        Matcher path = Pattern.compile("`((?:\\.\\./|\\.ci/|src/)[\\w./]+)`").matcher(readme);
        while (path.find()) {
            note(Files.exists(Path.of(path.group(1))), path.group(1) + " is not there");
        }
        Matcher test = Pattern.compile("`(\\w+Test)`|`(\\w+)\\.java`").matcher(readme);
        while (test.find()) {
            String name = test.group(1) == null ? test.group(2) : test.group(1);
            boolean isThere = Files.exists(TESTS.resolve(name + ".java")) || name.equals("BoundaryTest");
            note(isThere, name + " is not there");
        }
        note(readme.contains("```\n.ci/run\n```") && Files.isExecutable(Path.of(".ci/run")), ".ci/run runs the tests");
    }

    /** The script takes the files of one folder that have a main method: no other test may be overlooked. */
    private static void findTests() throws IOException {
        try (var files = Files.walk(TESTS)) {
            for (Path file : files.filter(Files::isRegularFile).toList()) {
                note(file.getParent().equals(TESTS), file + " is in a folder that is not run");
                boolean hasMain = Files.readString(file).contains("public static void main(String[] args)");
                boolean isTest = file.getFileName().toString().endsWith("Test.java");
                note(hasMain == isTest, file + " has a main method and no name of a test, or the other way round");
            }
        }
    }

    private static void note(boolean isRight, String what) {
        if (!isRight) {
            wrong++;
            System.out.println("not as due: " + what);
        }
    }
}
