/** The smallest and the largest argument that there is, and the next ones that there are not. */
final class Edges {
    interface Call {
        Object of(EveningLedger x, int argument);
    }

    interface PersonCall {
        Object of(EveningLedger x, char person);
    }

    private static final int MIN = Integer.MIN_VALUE;
    private static final int MAX = Integer.MAX_VALUE;
    /** 8 times this one wraps around to 0. */
    private static final int WRAPS = 1 << 29;

    private Edges() {
    }

    /** On the busy ledger: the earliest, the latest, now; ahead of it, forgotten, not come yet. */
    static void evenings(Call call) {
        right("evening", Check.INDEX, call, -1, 0, 2);
        wrong("evening", Check.INDEX, call, MIN, -2, 1, 3, WRAPS, MAX);
    }

    static void pages(Class<? extends RuntimeException> due, Call call) {
        right("page", due, call, 0, 7);
        wrong("page", due, call, MIN, -1, 8, WRAPS, MAX);
    }

    static void places(Class<? extends RuntimeException> due, Call call) {
        right("place", due, call, 0, 5);
        wrong("place", due, call, MIN, -1, 6, WRAPS, MAX);
    }

    static void people(PersonCall call) {
        right("person", Check.ARGUMENT, (x, sign) -> call.of(x, (char) sign), 'a', 'j');
        wrong("person", Check.ARGUMENT, (x, sign) -> call.of(x, (char) sign),
            0, 'A', '`', 'k', 'z', 'a' + 256, 'j' + 256, 65535);
    }

    /** Of an entry that is written or added. */
    static void debts(Call call) {
        right("debt", Check.ARGUMENT, call, -999, -1, 1, 999);
        wrong("debt", Check.ARGUMENT, call, MIN, -1000, 0, 1000, 65536, MAX);
    }

    static void right(String what, Class<? extends RuntimeException> not, Call call, int... arguments) {
        for (int argument : arguments) {
            EveningLedger x = Look.busy();
            Check.takes(what + " " + argument, not, () -> call.of(x, argument));
        }
    }

    static void wrong(String what, Class<? extends RuntimeException> due, Call call, int... arguments) {
        for (int argument : arguments) {
            Check.leaves(what + " " + argument, Look::busy, due, x -> call.of(x, argument));
        }
    }
}
