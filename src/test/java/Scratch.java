import java.io.IOException;
import java.nio.charset.StandardCharsets;
import java.nio.file.Files;
import java.nio.file.Path;
import java.nio.file.StandardCopyOption;
import java.util.Comparator;
import java.util.stream.Stream;

/** A directory with a checkout in it, to try commands there; it is gone when it is closed. */
final class Scratch implements AutoCloseable {
    record Outcome(int exit, String output) {
    }

    private final Path root;
    private final Path checkout;

    Scratch() throws IOException {
        root = Files.createTempDirectory("ledger");
        checkout = Files.createDirectory(root.resolve("main"));
    }

    /** Paths are told from the checkout on. */
    void put(String path, String text) throws IOException {
        Files.writeString(ready(path), text);
    }

    /** Takes a file of this checkout over, with the right to be executed. */
    void copy(String path) throws IOException {
        Files.copy(Path.of(path), ready(path), StandardCopyOption.COPY_ATTRIBUTES);
    }

    private Path ready(String path) throws IOException {
        Path file = checkout.resolve(path).normalize();
        Files.createDirectories(file.getParent());
        return file;
    }

    Outcome run(String command) throws IOException, InterruptedException {
        return runIn(".", command);
    }

    Outcome runIn(String directory, String command) throws IOException, InterruptedException {
        Process process = new ProcessBuilder("sh", "-c", command)
            .directory(checkout.resolve(directory).toFile()).redirectErrorStream(true).start();
        process.getOutputStream().close();
        String output = new String(process.getInputStream().readAllBytes(), StandardCharsets.UTF_8);
        return new Outcome(process.waitFor(), output);
    }

    @Override
    public void close() throws IOException {
        try (Stream<Path> files = Files.walk(root)) {
            for (Path file : files.sorted(Comparator.reverseOrder()).toList()) {
                Files.delete(file);
            }
        }
    }
}
