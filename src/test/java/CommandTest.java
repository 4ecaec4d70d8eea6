import java.io.IOException;

/**
 * README.md's command as it stands, in a small project with this one's script: it runs each test, and
 * fails if one fails. The small project has no test like this one, so that the command ends.
 */
final class CommandTest {
    private static final String OWN = "main/src/test/java/";
    private static final String SHARED = "shared/tests/";
    private static String command = "";

    /** Changes the small project. */
    interface Change {
        void on(Scratch small) throws IOException;
    }

    public static void main(String[] args) throws IOException, InterruptedException {
        command = Readme.block("How to run its tests", "sh");
        allPass();
        aTestFails();
        somethingDoesNotCompile();
        testsAreMissing();
        Check.end();
    }

    private static void allPass() throws IOException, InterruptedException {
        Scratch.Told told = told(small -> { });
        Check.due("all tests pass: " + told, told.code == 0);
        for (String one : new String[] {"FirstTest", "SecondTest", "FirstRuns", "SecondRuns"}) {
            Check.due(one + " runs: " + told, told.out.contains(one + " says digest 12981854480889461"));
        }
    }

    private static void aTestFails() throws IOException, InterruptedException {
        for (String one : new String[] {"FirstTest", "SecondTest"}) {
            fails(one + " fails", "FAILED: " + one, small -> small.put(OWN + one + ".java", test(one, 1)));
        }
        for (String one : new String[] {"FirstRuns", "SecondRuns"}) {
            fails(one + " fails", "FAILED: " + one, small -> small.put(SHARED + one + ".java", test(one, 1)));
        }
    }

    private static void somethingDoesNotCompile() throws IOException, InterruptedException {
        fails("the class does not compile", "CopyHouse.java:1: error",
                small -> small.put("main/" + Scratch.CLASS, "no class"));
        fails("a test of the project does not compile", "FirstTest.java:1: error",
                small -> small.put(OWN + "FirstTest.java", "no class"));
        fails("a shared test does not compile", "FirstRuns.java:1: error",
                small -> small.put(SHARED + "FirstRuns.java", "no class"));
    }

    private static void testsAreMissing() throws IOException, InterruptedException {
        fails("the project has no tests", "src/test/java", small -> {
            small.remove(OWN + "FirstTest.java");
            small.remove(OWN + "SecondTest.java");
        });
        fails("there are no shared tests", "../shared/tests", small -> {
            small.remove(SHARED + "FirstRuns.java");
            small.remove(SHARED + "SecondRuns.java");
        });
    }

    private static void fails(String what, String complaint, Change change)
            throws IOException, InterruptedException {
        Scratch.Told told = told(change);
        Check.due("the command fails if " + what + ": " + told, told.code != 0);
        Check.due("'" + complaint + "' in " + told, told.toString().contains(complaint));
    }

    private static Scratch.Told told(Change change) throws IOException, InterruptedException {
        Scratch small = new Scratch();
        small.copy(Scratch.CLASS);
        small.copy(Scratch.SCRIPT);
        small.put(OWN + "FirstTest.java", test("FirstTest", 0));
        small.put(OWN + "SecondTest.java", test("SecondTest", 0));
        small.put(SHARED + "FirstRuns.java", test("FirstRuns", 0));
        small.put(SHARED + "SecondRuns.java", test("SecondRuns", 0));
        change.on(small);
        Scratch.Told told = small.run(command);
        small.clear();
        return told;
    }

    /** A test that uses the class, so that it must be compiled with it, and ends with this exit code. */
    private static String test(String name, int code) {
        return "final class " + name + " {\n"
                + "    public static void main(String[] args) {\n"
                + "        System.out.println(\"" + name + " says digest \" + new CopyHouse().digest());\n"
                + "        System.exit(" + code + ");\n"
                + "    }\n"
                + "}\n";
    }
}
