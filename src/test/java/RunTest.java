import java.io.IOException;

/**
 * The command that README.md tells for the tests runs those of the project and those given beside it, and fails if
 * one fails; tried on checkouts with tests that are made for it.
 */
final class RunTest {
    private static final String CLASS = "src/main/java/EveningLedger.java";
    private static final String OWN = "src/test/java/OwnTest.java";
    private static final String OTHER = "src/test/java/TheOtherTest.java";
    private static final String GIVEN = "../shared/tests/GivenRuns.java";
    private static final String MORE = "../shared/tests/MoreRuns.java";
    private static final String BROKEN = "final class Broken {";

    public static void main(String[] arguments) throws IOException, InterruptedException {
        allPass();
        fails("a test of the project that fails", OWN, ending("OwnTest", 1), "TheOtherTest", "GivenRuns", "MoreRuns");
        fails("the last one of the project", OTHER, ending("TheOtherTest", 1), "OwnTest", "GivenRuns", "MoreRuns");
        fails("a given test that fails", GIVEN, ending("GivenRuns", 1), "OwnTest", "TheOtherTest", "MoreRuns");
        fails("the last given one", MORE, ending("MoreRuns", 1), "OwnTest", "TheOtherTest", "GivenRuns");
        fails("a given test that does not compile", GIVEN, BROKEN, "OwnTest", "TheOtherTest", "MoreRuns");
        fails("a test of the project that does not compile", OWN, BROKEN);
        fails("a class that does not compile", CLASS, BROKEN);
        nothingGiven();
        Check.finish();
    }

    /** It needs the class, says that it ran, and ends with an exit code. */
    private static String ending(String name, int exit) {
        return "final class " + name + " {\n    public static void main(String[] arguments) {\n"
            + "        new EveningLedger();\n        System.out.println(\"" + ran(name) + "\");\n"
            + "        System.exit(" + exit + ");\n    }\n}\n";
    }

    private static String ran(String name) {
        return "this is what " + name + " prints";
    }

    private static Scratch checkout() throws IOException {
        Scratch scratch = new Scratch();
        scratch.copy(".ci/run");
        scratch.put(CLASS, "public final class EveningLedger {\n}\n");
        scratch.put(OWN, ending("OwnTest", 0));
        scratch.put(OTHER, ending("TheOtherTest", 0));
        return scratch;
    }

    private static Scratch checkoutWithGiven() throws IOException {
        Scratch scratch = checkout();
        scratch.put(GIVEN, ending("GivenRuns", 0));
        scratch.put(MORE, ending("MoreRuns", 0));
        return scratch;
    }

    private static String command() throws IOException {
        return Readme.block("Tests", "sh").strip();
    }

    private static void allPass() throws IOException, InterruptedException {
        Check.same("the command", ".ci/run", command());
        try (Scratch scratch = checkoutWithGiven()) {
            Scratch.Outcome outcome = scratch.run(command());
            Check.same("all pass", 0, outcome.exit());
            haveRun("all pass", outcome, "OwnTest", "TheOtherTest", "GivenRuns", "MoreRuns");
            Check.same("from another directory", 0, scratch.runIn("..", "main/" + command()).exit());
        }
    }

    private static void fails(String what, String path, String text, String... others)
            throws IOException, InterruptedException {
        try (Scratch scratch = checkoutWithGiven()) {
            scratch.put(path, text);
            Scratch.Outcome outcome = scratch.run(command());
            Check.same(what + ": it fails", true, outcome.exit() != 0);
            haveRun(what, outcome, others);
        }
    }

    private static void nothingGiven() throws IOException, InterruptedException {
        try (Scratch scratch = checkout()) {
            Check.same("without the given tests: it fails", true, scratch.run(command()).exit() != 0);
        }
    }

    private static void haveRun(String what, Scratch.Outcome outcome, String... names) {
        for (String name : names) {
            Check.same(what + ": " + name + " runs", true, outcome.output().contains(ran(name)));
        }
    }
}
