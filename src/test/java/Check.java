import java.util.NoSuchElementException;

/** What the tests share: comparing answers, and telling at the end whether one was wrong. */
final class Check {
    interface Call {
        Object make();
    }

    static final Class<? extends RuntimeException> INDEX = IndexOutOfBoundsException.class;
    static final Class<? extends RuntimeException> ARGUMENT = IllegalArgumentException.class;
    static final Class<? extends RuntimeException> STATE = IllegalStateException.class;
    static final Class<? extends RuntimeException> REFUSED = UnsupportedOperationException.class;
    static final Class<? extends RuntimeException> ELEMENT = NoSuchElementException.class;
    static final Class<? extends RuntimeException> ARITHMETIC = ArithmeticException.class;

    private static int checks = 0;
    private static int wrong = 0;

    private Check() {
    }

    static void same(String what, Object due, Object got) {
        checks++;
        if (!due.equals(got)) {
            wrong++;
            System.out.println("WRONG " + what + ": due is " + due + ", got " + got);
        }
    }

    static void fails(String what, Class<? extends RuntimeException> due, Call call) {
        same(what, "throws " + due.getName(), answer(call));
    }

    /** The call throws, and what can be asked about the ledger stays as it was. */
    static void failsCleanly(String what, EveningLedger x, Class<? extends RuntimeException> due, Call call) {
        String before = Look.at(x);
        fails(what, due, call);
        same(what + ", the state then", before, Look.at(x));
    }

    /** The same for a refusal, whose reason and detail are kept. */
    static void refuses(String what, EveningLedger x, int reason, int detail, Call call) {
        failsCleanly(what, x, REFUSED, call);
        same(what + ", reason", reason, x.reason(false));
        same(what + ", detail", detail, x.reason(true));
    }

    static Object answer(Call call) {
        try {
            return call.make();
        } catch (RuntimeException thrown) {
            return "throws " + thrown.getClass().getName();
        }
    }

    static void finish() {
        System.out.println(checks + " checks, " + wrong + " wrong");
        if (wrong != 0) {
            System.exit(1);
        }
    }
}
