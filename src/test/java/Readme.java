import java.io.IOException;
import java.nio.file.Files;
import java.nio.file.Path;

/** README.md by its sections and what stands in them between ``` and ```. */
final class Readme {
    private static final Path FILE = Path.of("README.md");

    private Readme() {
    }

    static String section(String title) throws IOException {
        for (String section : Files.readString(FILE).split("(?m)^## ")) {
            if (section.startsWith(title + "\n")) {
                return section;
            }
        }
        return "";
    }

    /** The first block of a section that is marked by a language, or nothing. */
    static String block(String title, String language) throws IOException {
        String mark = "\n```" + language + "\n";
        String section = section(title);
        int start = section.indexOf(mark);
        int end = start < 0 ? -1 : section.indexOf("\n```", start + mark.length());
        return end < 0 ? "" : section.substring(start + mark.length(), end);
    }
}
