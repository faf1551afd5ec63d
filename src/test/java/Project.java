import java.io.IOException;
import java.nio.file.Files;
import java.nio.file.Path;

/** Where the project's files are: .ci/run tells its root; a test started by hand is started there. */
final class Project {
    static final Path ROOT = Path.of(System.getProperty("doorlister.root", "."));
    static final Path SOURCE = ROOT.resolve("src/main/java/DoorLister.java");

    private Project() {
    }

    static String source() throws IOException {
        return Files.readString(SOURCE);
    }

    static String readme() throws IOException {
        return Files.readString(ROOT.resolve("README.md"));
    }
}
