/**
 * All short texts of the signs that matter, each of which the class and the model have to answer alike: promises 31
 * and 32, and of the terms "The error position of a text that is malformed is the smallest index k ..".
 */
final class ShortTextsTest {
    private static final String SIGNS = "08aeft+-~@; ";
    private static final int LONGEST = 4;
    private static final String[] BEGINNINGS = {"", "00a1;", "0+a9", "00a~9", "t0@0", "f00", "t0@00", "e;e;f0;"};

    private static int texts = 0;
    private static int wrong = 0;

    public static void main(String[] arguments) {
        for (String beginning : BEGINNINGS) {
            tryAll(beginning, beginning.isEmpty() ? LONGEST : LONGEST - 1);
        }
        System.out.println(texts + " texts, " + wrong + " wrong");
        if (wrong != 0) {
            System.exit(1);
        }
    }

    private static void tryAll(String text, int more) {
        tryOne(text);
        if (more > 0) {
            for (int index = 0; index < SIGNS.length(); index++) {
                tryAll(text + SIGNS.charAt(index), more - 1);
            }
        }
    }

    private static void tryOne(String text) {
        EveningLedger x = new EveningLedger();
        LedgerModel model = new LedgerModel();
        for (int index = 0; index < text.length(); index++) {
            x.append(text.charAt(index));
            model.append(text.charAt(index));
        }
        Object got = Check.answer(x::read) + ", " + Check.answer(x::errorPosition);
        Object due = Check.answer(model::read) + ", " + Check.answer(model::errorPosition);
        texts++;
        if (!due.equals(got)) {
            wrong++;
            System.out.println("WRONG \"" + text + "\": due is " + due + ", got " + got);
        }
    }
}
