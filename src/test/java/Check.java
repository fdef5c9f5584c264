import java.util.Map;
import java.util.NoSuchElementException;

/** What the tests share: comparing answers, saying which sentence they hold, and telling whether one was wrong. */
final class Check {
    interface Call {
        Object make();
    }

    interface Maker {
        EveningLedger make();
    }

    interface Use {
        Object of(EveningLedger x);
    }

    static final Class<? extends RuntimeException> INDEX = IndexOutOfBoundsException.class;
    static final Class<? extends RuntimeException> ARGUMENT = IllegalArgumentException.class;
    static final Class<? extends RuntimeException> STATE = IllegalStateException.class;
    static final Class<? extends RuntimeException> REFUSED = UnsupportedOperationException.class;
    static final Class<? extends RuntimeException> ELEMENT = NoSuchElementException.class;
    static final Class<? extends RuntimeException> ARITHMETIC = ArithmeticException.class;

    private static String sentence = "";
    private static int checks = 0;
    private static int wrong = 0;

    private Check() {
    }

    /** What is checked from here on holds this sentence of a promise. */
    static void promise(int number, String words) {
        hold(Sentences.promise(number), words);
    }

    /** What is checked from here on holds this sentence of the document's terms, below one of their headings. */
    static void terms(String heading, String words) {
        hold(heading, words);
    }

    /** .. and this one, which each promise with several exceptions shares. */
    static void order() {
        terms("Exceptions", "If several exceptions apply, the one that is documented first is thrown.");
    }

    private static void hold(String section, String words) {
        sentence = section + " \"" + words + "\": ";
        same("this is a sentence of the document", true, Sentences.quote(section, words));
    }

    static void same(String what, Object due, Object got) {
        checks++;
        if (!due.equals(got)) {
            wrong++;
            System.out.println("WRONG " + sentence + what + ": due is " + due + ", got " + got);
        }
    }

    static void fails(String what, Class<? extends RuntimeException> due, Call call) {
        same(what, thrown(due), answer(call));
    }

    /** The call may do what it likes but throw this. */
    static void takes(String what, Class<? extends RuntimeException> not, Call call) {
        same(what + " is taken", false, thrown(not).equals(answer(call)));
    }

    /**
     * The call throws and leaves all that the ledger has as it was, but for what is told by its name and how it is
     * then: "reason", "3, 5". The ledger is made anew for each look, which needs many calls.
     */
    static void leaves(String what, Maker maker, Class<? extends RuntimeException> due, Use call, String... changed) {
        same(what, thrown(due), answer(maker, call));
        isLeft(what, maker, call, changed);
    }

    /** It is refused for the reason and with the detail, and nothing else is different then. */
    static void refuses(String what, Maker maker, int reason, int detail, Use call) {
        leaves(what, maker, REFUSED, call, "reason", reason + ", " + detail);
    }

    /** The call throws nothing and leaves all as it was, but for what is told. */
    static void onlyAnswers(String what, Maker maker, Use call, String... changed) {
        same(what + " throws", false, answer(maker, call).toString().startsWith("throws "));
        isLeft(what, maker, call, changed);
    }

    private static void isLeft(String what, Maker maker, Use call, String... changed) {
        Map<String, String> due = Look.all(maker.make());
        for (int index = 0; index < changed.length; index += 2) {
            due.put(changed[index], changed[index + 1]);
        }
        EveningLedger x = maker.make();
        answer(() -> call.of(x));
        same(what + ", what there is then", due, Look.all(x));
    }

    static Object answer(Call call) {
        try {
            return call.make();
        } catch (RuntimeException thrown) {
            return thrown(thrown.getClass());
        }
    }

    private static Object answer(Maker maker, Use call) {
        EveningLedger x = maker.make();
        return answer(() -> call.of(x));
    }

    static String thrown(Class<? extends RuntimeException> what) {
        return "throws " + what.getName();
    }

    /** Tells whether one was wrong, or a sentence of the promises from the first to the last has no test. */
    static void finish(int first, int last) {
        String[] sections = new String[last - first + 1];
        for (int number = first; number <= last; number++) {
            sections[number - first] = Sentences.promise(number);
        }
        finish(sections);
    }

    static void finish(String... sections) {
        sentence = "";
        for (String section : sections) {
            same("sentences without a test, " + section, "[]", Sentences.notQuoted(section).toString());
        }
        System.out.println(checks + " checks, " + wrong + " wrong");
        if (wrong != 0) {
            System.exit(1);
        }
    }
}
