/** Ways of asking a ledger for much at once. */
final class Look {
    private Look() {
    }

    /** All that a change could have touched, but for the reason, without changing anything. */
    static String at(EveningLedger x) {
        StringBuilder seen = new StringBuilder();
        for (int account = 0; account <= 11; account++) {
            seen.append(x.account(account)).append(' ');
        }
        for (int place = 0; place < x.account(1); place++) {
            seen.append(day(x, x.keptAt(place)));
        }
        seen.append(day(x, -1));
        seen.append(" line ").append(line(x));
        seen.append(" error ").append(Check.answer(x::errorPosition));
        return seen.toString();
    }

    private static String day(EveningLedger x, int evening) {
        StringBuilder seen = new StringBuilder("\n").append(evening).append(':');
        for (int page = 0; page < 8; page++) {
            seen.append(" #").append(x.pageOf(evening, page, 2));
            int left = x.pageOf(evening, page, 0);
            for (int place = 0; left > 0; place++) {
                int debt = x.debtAt(evening, page, place);
                if (debt != 0) {
                    left--;
                    seen.append(' ').append(place).append(x.personAt(evening, page, place)).append(debt);
                }
            }
        }
        return seen.toString();
    }

    /** The line by its characters, up to the first that there is not. */
    static String line(EveningLedger x) {
        StringBuilder line = new StringBuilder();
        for (int index = 0; index < 1000; index++) {
            Object character = Check.answer(at(x, index));
            if (!(character instanceof Character)) {
                break;
            }
            line.append(character);
        }
        return line.toString();
    }

    private static Check.Call at(EveningLedger x, int index) {
        return () -> x.character(index);
    }

    static String told(EveningLedger x, int evening, int page) {
        int length = x.tell(evening, page);
        return lineOf(x, length);
    }

    static String shown(EveningLedger x, int evening) {
        int length = x.show(evening);
        return lineOf(x, length);
    }

    private static String lineOf(EveningLedger x, int length) {
        String line = line(x);
        Check.same("the length of " + line, line.length(), length);
        return line;
    }

    static void input(EveningLedger x, String text) {
        for (int index = 0; index < text.length(); index++) {
            x.append(text.charAt(index));
        }
    }

    /** What read answers to a text. */
    static Object read(EveningLedger x, String text) {
        input(x, text);
        return Check.answer(x::read);
    }

    /** A new ledger after a text that is carried out. */
    static EveningLedger after(String... texts) {
        EveningLedger x = new EveningLedger();
        for (String text : texts) {
            input(x, text);
            x.read();
        }
        return x;
    }
}
