import java.util.LinkedHashMap;
import java.util.Map;

/** Ledgers to begin with, and ways of asking a ledger for much at once. */
final class Look {
    private Look() {
    }

    /** A new ledger after texts that are carried out. */
    static EveningLedger after(String... texts) {
        EveningLedger x = new EveningLedger();
        for (String text : texts) {
            input(x, text);
            x.read();
        }
        return x;
    }

    /**
     * A ledger with something of all: it keeps the evenings 0 and 2, while 1 is forgotten; six changes are
     * remembered; a state is saved; there are a line, an input, an error position 3, and the reason 3 with 5.
     * On evening 2 page 0 is "a5 b-6 c7 . . ." and page 7 "j999 . . . . ."; now page 0 is "b-9 a5 . . . .", page 4
     * ". . e-1 . . ." and page 7 "j999 . . . . j-999". The other pages are empty.
     */
    static EveningLedger busy() {
        EveningLedger x = after("00a5;01b~6;70j999;e;0+c7;e;f1", "75j~999");
        x.save();
        x.owe(0, 1, -3);
        x.swap(0, 0, 1);
        x.strike(0, 2);
        x.add(3, 'd', 1);
        x.takeOver(3, 0);
        x.write(4, 2, 'e', -1);
        x.tell(-1, 0);
        read(x, "00a!");
        Check.answer(() -> x.strike(6, 5));
        input(x, "e");
        return x;
    }

    /** A ledger that keeps 12 evenings, 0 to 11, all with empty pages. */
    static EveningLedger fullOfEvenings() {
        EveningLedger x = new EveningLedger();
        for (int evening = 1; evening <= 11; evening++) {
            x.evening();
        }
        return x;
    }

    /** Puts an entry at each place of a page. */
    static void fill(EveningLedger x, int page, char person, int debt) {
        for (int place = 0; place < 6; place++) {
            x.write(page, place, person, debt);
        }
    }

    /** A ledger with the same entry at each of the 48 places. */
    static EveningLedger filled(char person, int debt) {
        EveningLedger x = new EveningLedger();
        for (int page = 0; page < 8; page++) {
            fill(x, page, person, debt);
        }
        return x;
    }

    /** All that a ledger has, by names; it is undone and restored for that, so that the ledger is used up then. */
    static Map<String, String> all(EveningLedger x) {
        Map<String, String> seen = new LinkedHashMap<>();
        seen.put("reason", Check.answer(() -> x.reason(false)) + ", " + Check.answer(() -> x.reason(true)));
        seen.put("error", "" + Check.answer(x::errorPosition));
        seen.put("input", "" + x.account(10));
        seen.put("line", line(x));
        seen.put("accounts", accounts(x) + x.account(11));
        seen.put("days", days(x));
        seen.put("history", history(x));
        return seen;
    }

    /** Those that undo and restore bring back. */
    static String accounts(EveningLedger x) {
        StringBuilder seen = new StringBuilder();
        for (int account = 0; account <= 9; account++) {
            seen.append(x.account(account)).append(' ');
        }
        return seen.toString();
    }

    /** Each kept evening and now, with the sheets and the entries. */
    static String days(EveningLedger x) {
        StringBuilder seen = new StringBuilder();
        int kept = Math.min(x.account(1), 12);
        for (int place = 0; place < kept; place++) {
            seen.append(day(x, x.keptAt(place)));
        }
        return seen.append(day(x, -1)).toString();
    }

    static String day(EveningLedger x, int evening) {
        StringBuilder seen = new StringBuilder("\n").append(evening).append(':');
        for (int page = 0; page < 8; page++) {
            seen.append(" #").append(x.pageOf(evening, page, 2));
            int left = x.pageOf(evening, page, 0);
            for (int place = 0; place < 6 && left > 0; place++) {
                int debt = x.debtAt(evening, page, place);
                if (debt != 0) {
                    left--;
                    seen.append(' ').append(place).append(x.personAt(evening, page, place)).append(debt);
                }
            }
        }
        return seen.toString();
    }

    private static String history(EveningLedger x) {
        StringBuilder seen = new StringBuilder();
        int changes = Math.min(x.account(11), 6);
        for (int change = 0; change <= changes; change++) {
            seen.append(Check.answer(x::undo)).append(": ").append(accounts(x)).append("| ");
        }
        return seen.append(Check.answer(x::restore)).append(": ").append(accounts(x)).toString();
    }

    /** The line by its characters, up to the first that there is not. */
    static String line(EveningLedger x) {
        StringBuilder line = new StringBuilder();
        for (int index = 0; index < 100; index++) {
            Object character = Check.answer(at(x, index));
            if (!(character instanceof Character)) {
                break;
            }
            line.append(character);
        }
        return line.toString();
    }

    private static Check.Call at(EveningLedger x, int index) {
        return () -> x.character(index);
    }

    static String told(EveningLedger x, int evening, int page) {
        int length = x.tell(evening, page);
        return lineOf(x, length);
    }

    static String shown(EveningLedger x, int evening) {
        int length = x.show(evening);
        return lineOf(x, length);
    }

    private static String lineOf(EveningLedger x, int length) {
        String line = line(x);
        Check.same("the length of " + line, line.length(), length);
        return line;
    }

    static void input(EveningLedger x, String text) {
        for (int index = 0; index < text.length(); index++) {
            x.append(text.charAt(index));
        }
    }

    /** What read answers to a text. */
    static Object read(EveningLedger x, String text) {
        input(x, text);
        return Check.answer(x::read);
    }

    /** The ledger after its input, as a text has to be there before it is read. */
    static EveningLedger withInput(EveningLedger x, String text) {
        input(x, text);
        return x;
    }
}
