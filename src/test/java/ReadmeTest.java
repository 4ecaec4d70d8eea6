import java.io.IOException;
import java.lang.reflect.Method;
import java.lang.reflect.Modifier;
import java.nio.file.Files;
import java.nio.file.Path;
import java.util.List;
import java.util.Set;
import java.util.TreeSet;
import java.util.stream.Collectors;
import java.util.stream.Stream;

/** README.md's words as they stand: the example, the names of the calls, the list of the tests. */
final class ReadmeTest {
    private static final String USE = "How to use it";

    public static void main(String[] args) throws IOException, InterruptedException {
        example();
        namesEachCall();
        namesEachTest();
        Check.end();
    }

    /** Saved where README.md says so, and run by its lines, the example prints what stands there. */
    private static void example() throws IOException, InterruptedException {
        Scratch scratch = new Scratch();
        scratch.copy(Scratch.CLASS);
        scratch.put("main/build/Example.java", Readme.block(USE, "java"));
        Scratch.Told told = scratch.run(Readme.block(USE, "sh"));
        scratch.clear();
        Check.due("the example runs: " + told, told.code == 0);
        Check.due("the example", told.out, Readme.block(USE, "text"));
        Check.due("README.md says where to save it", all().contains("`build/Example.java`"));
    }

    private static void namesEachCall() throws IOException {
        for (Method one : CopyHouse.class.getDeclaredMethods()) {
            if (Modifier.isPublic(one.getModifiers())) {
                Check.due("README.md names " + one.getName(), all().contains("`" + one.getName() + "("));
            }
        }
    }

    private static void namesEachTest() throws IOException {
        Set<String> named = new TreeSet<String>();
        for (String line : Readme.lines()) {
            if (line.startsWith("| `") && line.contains("Test` |")) {
                named.add(line.substring(3, line.indexOf("` |")));
            }
        }
        Check.due("the tests that README.md names", named.toString(), tests().toString());
    }

    private static Set<String> tests() throws IOException {
        try (Stream<Path> files = Files.list(Path.of("src/test/java"))) {
            List<String> names = files.map(one -> one.getFileName().toString()).collect(Collectors.toList());
            Set<String> tests = new TreeSet<String>();
            for (String name : names) {
                if (name.endsWith("Test.java")) {
                    tests.add(name.substring(0, name.length() - ".java".length()));
                }
            }
            return tests;
        }
    }

    private static String all() throws IOException {
        return String.join("\n", Readme.lines());
    }
}
