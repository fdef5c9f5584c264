import java.io.IOException;
import java.nio.file.Files;
import java.nio.file.Path;
import java.util.ArrayList;
import java.util.List;
import java.util.TreeSet;
import java.util.regex.Matcher;
import java.util.regex.Pattern;
import java.util.stream.Stream;

/** What README.md says is so: its example compiles and answers as it says, and the tests that it names are there. */
final class ReadmeTest {
    /** The answer of a line that prints stands behind it, up to a colon. */
    private static final Pattern PRINTS = Pattern.compile("System\\.out\\.println\\(.*\\); +// ([^:]*)(:.*)?");

    public static void main(String[] arguments) throws IOException, InterruptedException {
        theExample();
        theExampleNamesTheFace();
        theTestsThatAreNamed();
        Check.finish();
    }

    private static void theExample() throws IOException, InterruptedException {
        String example = Readme.block("Use", "java");
        List<String> due = answers(example);
        Check.same("the example tells answers", true, due.size() >= 10);
        try (Scratch scratch = new Scratch()) {
            scratch.copy("src/main/java/EveningLedger.java");
            scratch.put("Yours.java", example + "\n");
            Scratch.Outcome outcome = scratch.run("set -e\n" + Readme.block("Use", "sh"));
            Check.same("the example's end", 0, outcome.exit());
            Check.same("what the example prints", due, outcome.output().lines().toList());
        }
    }

    private static List<String> answers(String example) {
        List<String> answers = new ArrayList<>();
        for (String line : example.lines().toList()) {
            Matcher prints = PRINTS.matcher(line.strip());
            boolean isTold = prints.matches();
            Check.same("the answer is told of " + line.strip(), line.contains("println"), isTold);
            if (isTold) {
                answers.add(prints.group(1).strip());
            }
        }
        return answers;
    }

    /** What the text says of a method or an exception needs its name, which has to be one that there is. */
    private static void theExampleNamesTheFace() throws IOException {
        String source = Files.readString(Path.of("src/main/java/EveningLedger.java"));
        Matcher names = Pattern.compile("`(\\w+)(\\(\\))?`").matcher(Readme.section("Use"));
        int found = 0;
        while (names.find()) {
            found++;
            Check.same("there is " + names.group(1), true, source.matches("(?s).*\\b" + names.group(1) + "\\b.*"));
        }
        Check.same("names", true, found > 0);
    }

    private static void theTestsThatAreNamed() throws IOException {
        TreeSet<String> named = new TreeSet<>();
        Matcher names = Pattern.compile("`(\\w+Test)`").matcher(Readme.section("Tests"));
        while (names.find()) {
            named.add(names.group(1));
        }
        TreeSet<String> there = new TreeSet<>();
        try (Stream<Path> files = Files.list(Path.of("src/test/java"))) {
            files.map(file -> file.getFileName().toString()).filter(name -> name.endsWith("Test.java"))
                .forEach(name -> there.add(name.replace(".java", "")));
        }
        Check.same("the tests that README.md names", there, named);
    }
}
