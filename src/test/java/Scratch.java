import java.io.File;
import java.io.IOException;
import java.nio.file.Files;
import java.nio.file.Path;
import java.util.Arrays;
import java.util.List;

/**
 * A folder of its own, with 'main' and 'shared' beside each other as in the project, where the words of
 * README.md are tried without touching the project itself.
 */
final class Scratch {
    static final String CLASS = "src/main/java/CopyHouse.java";
    static final String SCRIPT = ".ci/run";

    /** What a command came to. */
    static final class Told {
        final int code;
        final String out;
        final String errors;

        Told(int code, String out, String errors) {
            this.code = code;
            this.out = out;
            this.errors = errors;
        }

        @Override
        public String toString() {
            return "exit code " + code + "\n" + out + errors;
        }
    }

    private final Path top;

    Scratch() throws IOException {
        top = Files.createTempDirectory("copyhouse");
        Files.createDirectories(top.resolve("main"));
    }

    /** Copies a file of the project to the same place here; one that can be run can be run here, too. */
    void copy(String file) throws IOException {
        Path copied = placeOf("main/" + file);
        Files.copy(Path.of(file), copied);
        copied.toFile().setExecutable(Files.isExecutable(Path.of(file)));
    }

    /** The file's name begins with main/ or shared/. */
    void put(String file, String text) throws IOException {
        Files.writeString(placeOf(file), text);
    }

    void remove(String file) throws IOException {
        Files.delete(top.resolve(file));
    }

    private Path placeOf(String file) throws IOException {
        Path place = top.resolve(file);
        Files.createDirectories(place.getParent());
        return place;
    }

    /** Runs a shell's lines in 'main'; the first one that fails is the last one. */
    Told run(String lines) throws IOException, InterruptedException {
        // Files, not pipes: a pipe that nobody reads would stop the command.
        Path out = top.resolve("out");
        Path errors = top.resolve("errors");
        Process shell = new ProcessBuilder("sh", "-e", "-c", lines).directory(top.resolve("main").toFile())
                .redirectInput(new File("/dev/null")).redirectOutput(out.toFile()).redirectError(errors.toFile())
                .start();
        int code = shell.waitFor();
        return new Told(code, Files.readString(out), Files.readString(errors));
    }

    void clear() {
        clear(top.toFile());
    }

    private static void clear(File place) {
        File[] inside = place.listFiles();
        List<File> all = inside == null ? List.of() : Arrays.asList(inside);
        for (File one : all) {
            clear(one);
        }
        place.delete();
    }
}
