/** Promises 30 to 33, sentence by sentence. */
final class TextsTest {
    private static final String ONE_AFTER_THE_OTHER = "Carries out the commands of the text in the input, one after the"
        + " other, or none of them.";
    private static final String MALFORMED = "Throws `IllegalArgumentException` if the input is malformed; the error"
        + " position is then kept";
    private static final String NOT_THERE = "Throws `IllegalStateException` if a command tells a page, a place, a"
        + " person or an evening that there is not, or a debt of 0";
    private static final String REFUSED = "Throws `UnsupportedOperationException` if a command is refused; the reason"
        + " is then kept";

    public static void main(String[] arguments) {
        promise30Appends();
        promise30NoSuchCharacter();
        promise30FullInput();
        promise31CarriesOut();
        promise31AllOrNothing();
        promise31InputIsEmptyAfterwards();
        promise31OneChange();
        promise31NumberOfCommands();
        promise31Malformed();
        promise31NotThere();
        promise31JustThere();
        promise31EveningsThatAreNotThere();
        promise31Refused();
        promise31TheFirstExceptionIsThrown();
        promise32ErrorPosition();
        promise32Stays();
        promise33Reason();
        promise33IsReplaced();
        Check.finish(30, 33);
    }

    private static void promise30Appends() {
        Check.promise(30, "Appends a character to the input.");
        EveningLedger x = new EveningLedger();
        Check.promise(30, "Returns the new length of the input.");
        for (int length = 1; length <= 60; length++) {
            Check.same("length", length, x.append('e'));
        }
        Check.same("what account tells", 60, x.account(10));
        Check.fails("it is malformed", Check.ARGUMENT, x::read);
        Check.same("length of an input that was emptied", 1, x.append('e'));
        Check.same("what was appended behind that alone is read", 1, x.read());
        Check.promise(30, "`character`: the character, with a code from 32 to 126");
        for (char code = 32; code <= 126; code++) {
            EveningLedger y = new EveningLedger();
            char sign = code;
            Check.same("code " + (int) code, 1, Check.answer(() -> y.append(sign)));
        }
    }

    private static void promise30NoSuchCharacter() {
        Check.promise(30, "Throws `IllegalArgumentException` if the character code is out of range");
        Edges.right("code", Check.ARGUMENT, (x, code) -> x.append((char) code), 32, 126);
        Edges.wrong("code", Check.ARGUMENT, (x, code) -> x.append((char) code),
            0, 10, 31, 127, 128, 255, 256 + 'e', 65535);
        Check.order();
        Check.leaves("code 31 and a full input", TextsTest::fullInput, Check.ARGUMENT, x -> x.append((char) 31));
        Check.leaves("code 127 and a full input", TextsTest::fullInput, Check.ARGUMENT, x -> x.append((char) 127));
    }

    private static EveningLedger fullInput() {
        return Look.withInput(new EveningLedger(), "e;".repeat(30));
    }

    private static void promise30FullInput() {
        Check.promise(30, "Throws `IllegalStateException` if the input has 60 characters");
        Check.leaves("a 61st one", TextsTest::fullInput, Check.STATE, x -> x.append('e'));
        Check.leaves("a 61st one, the first that there is", TextsTest::fullInput, Check.STATE, x -> x.append(' '));
        Check.leaves("a 61st one, the last that there is", TextsTest::fullInput, Check.STATE, x -> x.append('~'));
        EveningLedger x = Look.withInput(new EveningLedger(), "e".repeat(59));
        Check.same("the 60th one", 60, x.append(' '));
        Check.fails("the next one", Check.STATE, () -> x.append(' '));
        Check.fails("the input", Check.ARGUMENT, x::read);
        Check.same("the first one then", 1, x.append('~'));
    }

    private static void promise31CarriesOut() {
        Check.promise(31, ONE_AFTER_THE_OTHER);
        EveningLedger x = Look.after("05j999;0+a~999;0+b10;01-;7+c1");
        Check.same("the first page", "a-999 . . . . j999", Look.told(x, -1, 0));
        Check.same("the last page", "c1 . . . . .", Look.told(x, -1, 7));
        Look.read(x, "e;t0@0;e;f1");
        Check.same("the latest", 2, x.account(0));
        Check.same("kept", 2, x.account(1));
        Check.same("the first page then", ". . . . . .", Look.told(x, 2, 0));
        EveningLedger y = Look.after("00a1;e;00-;00b2;e;00-;00c3");
        Check.same("what was written ahead of an evening", "a1 . . . . .", Look.told(y, 1, 0));
        Check.same("what was written between two", "b2 . . . . .", Look.told(y, 2, 0));
        Check.same("what was written behind them", "c3 . . . . .", Look.told(y, -1, 0));
        Check.same("the place that was emptied ahead", 2, Look.read(y, "00-;00d4"));
    }

    private static void promise31AllOrNothing() {
        Check.promise(31, ONE_AFTER_THE_OTHER);
        Check.leaves("a refusal behind all kinds", () -> Look.withInput(withoutInput(), "00-;51b2;5+c3;e;t4@2;f0;52-"),
            Check.REFUSED, EveningLedger::read, "reason", "3, 2", "input", "0");
        Check.leaves("what is not there behind all kinds", () -> Look.withInput(withoutInput(),
            "00-;51b2;5+c3;e;t4@2;f0;86-"), Check.STATE, EveningLedger::read, "input", "0");
        Check.leaves("a malformed text behind all kinds", () -> Look.withInput(withoutInput(),
            "00-;51b2;5+c3;e;t4@2;f0;50_"), Check.ARGUMENT, EveningLedger::read, "input", "0", "error", "26");
    }

    /** The busy ledger, whose own input is read, so that the evening 3 comes. */
    private static EveningLedger withoutInput() {
        EveningLedger x = Look.busy();
        x.read();
        return x;
    }

    private static void promise31InputIsEmptyAfterwards() {
        Check.promise(31, "The input is empty afterwards, whatever happens.");
        String[] texts = {"", "e", ";", "00a1;", "00-", "00a0", "90a1", "f0", "t0@0", "e".repeat(60), "e;".repeat(30)};
        for (String text : texts) {
            EveningLedger x = new EveningLedger();
            Look.read(x, text);
            Check.same("after \"" + text + "\"", 0, x.account(10));
            Check.fails("what is read then", Check.ARGUMENT, x::read);
            Check.same("its error position", 0, x.errorPosition());
            Check.same("the next text alone is read", 1, Look.read(x, "e"));
        }
    }

    private static void promise31OneChange() {
        Check.promise(31, "It is one change.");
        EveningLedger x = Look.after("00a1");
        Look.read(x, "e;00-;00b2;0+c3;t0@1;f0;e");
        Check.same("changes", 2, x.account(11));
        Check.same("what is left", 1, x.undo());
        String before = "\n0: #0 #1 #2 #3 #4 #5 #6 #7\n-1: #8 0a1 #1 #2 #3 #4 #5 #6 #7";
        Check.same("all of it is undone", before, Look.days(x));
        Look.read(x, "e;00x1");
        Look.read(x, "e;00a1");
        Look.read(x, "e;00a1;");
        Check.same("what failed is none", 1, x.account(11));
        EveningLedger y = new EveningLedger();
        for (int text = 1; text <= 7; text++) {
            Look.read(y, "0+a1;00-");
            Check.same("each text is one", Math.min(text, 6), y.account(11));
        }
    }

    private static void promise31NumberOfCommands() {
        Check.promise(31, "Returns the number of commands.");
        String[] singles = {"e", "00a1", "10b~999", "2+j999", "00-", "f0", "t0@1"};
        EveningLedger x = new EveningLedger();
        for (String single : singles) {
            Check.same(single, 1, Look.read(x, single));
        }
        EveningLedger y = new EveningLedger();
        Check.same("60 characters", 13,
            Look.read(y, "00a1;01a1;02a1;03a1;04a1;05a1;10a1;11a1;12a1;e;f0;00-;t0@001"));
        Check.same("the last one of them is carried out", 1, y.account(9));
        EveningLedger z = new EveningLedger();
        String most = "e;e;e;e;e;e;e;e;e;e;e;f0;e;f1;e;f2;e;f3;e;f4;e;f5;e;f6;e;f7";
        Check.same("the most that can be done", 26, Look.read(z, most));
        Check.same("the latest then", 18, z.account(0));
        Check.same("kept then", 11, z.account(1));
    }

    private static void promise31Malformed() {
        Check.promise(31, MALFORMED);
        Check.leaves("an empty input", TextsTest::withoutInput, Check.ARGUMENT, x -> x.read(), "error", "0");
        Check.leaves("a number of four digits", () -> Look.withInput(withoutInput(), "55a1000"), Check.ARGUMENT,
            x -> x.read(), "error", "6", "input", "0");
        Check.leaves("a semicolon at the end", () -> Look.withInput(withoutInput(), "e;"), Check.ARGUMENT,
            x -> x.read(), "error", "2", "input", "0");
        Check.leaves("60 characters that end with a semicolon", TextsTest::fullInput, Check.ARGUMENT,
            x -> x.read(), "error", "60", "input", "0");
        Check.leaves("60 characters of which the last one is wrong",
            () -> Look.withInput(new EveningLedger(), "e;".repeat(29) + "e!"), Check.ARGUMENT,
            x -> x.read(), "error", "59", "input", "0");
    }

    private static void promise31NotThere() {
        Check.promise(31, NOT_THERE);
        String[] texts = {"80a1", "90a1", "06a1", "09a1", "00k1", "11z1", "00e0", "11a~0", "11a00", "11a~000", "8+a1",
            "9+a1", "0+k1", "0+z1", "0+a0", "0+a~0", "0+a000", "80-", "90-", "06-", "09-", "t8@0", "t9@0", "t0@4",
            "t0@999", "t0@1", "f4", "f999", "f1", "e;t0@5", "e;f5", "f2;t0@2", "86k0", "8+k0", "t8@4"};
        for (String text : texts) {
            Check.leaves(text, () -> Look.withInput(withoutInput(), text), Check.STATE,
                x -> x.read(), "input", "0");
        }
    }

    private static void promise31JustThere() {
        Check.promise(31, NOT_THERE);
        EveningLedger x = new EveningLedger();
        String[] texts = {"00a1", "75j~1", "05a999", "70j~999", "0+a01", "7+j001", "7+j~001", "00-", "75-", "e",
            "00b1", "t0@1", "t7@0", "t7@001", "e", "f0", "e;f2", "f01"};
        for (String text : texts) {
            Check.same(text, text.contains(";") ? 2 : 1, Look.read(x, text));
        }
        Check.same("the first page", ". a1 . . . a999", Look.told(x, -1, 0));
        Check.same("the last page", "j-999 j1 j-1 . . .", Look.told(x, -1, 7));
    }

    private static void promise31EveningsThatAreNotThere() {
        Check.promise(31, NOT_THERE);
        String not = Check.thrown(Check.STATE);
        EveningLedger x = new EveningLedger();
        Check.same("one that has not come", not, Look.read(x, "t0@1"));
        Check.same("one that comes behind it", not, Look.read(x, "t0@1;e"));
        Check.same("one that comes ahead of it", 4, Look.read(x, "e;00a1;t0@1;f0"));
        Check.same("one that is forgotten", not, Look.read(x, "t1@0"));
        Check.same("one that is forgotten to be forgotten", not, Look.read(x, "f0"));
        Check.same("one that is forgotten by the text", not, Look.read(x, "e;f1;t0@1"));
        Check.same("one that is forgotten by the text twice", not, Look.read(x, "e;f1;f1"));
        Check.same("none of it was done", 1, x.account(0));
        EveningLedger y = Look.fullOfEvenings();
        Check.same("the last one of 12, to be taken over from", 2, Look.read(y, "00a1;t0@11"));
        Check.same("the one behind it", not, Look.read(y, "00a1;t0@12"));
        Check.same("the one behind it, to be forgotten", not, Look.read(y, "f12"));
        Check.same("the one ahead of it", 1, Look.read(y, "f10"));
    }

    private static void promise31Refused() {
        Check.promise(31, REFUSED);
        refused("00a1", 2, -9);
        refused("75j~999", 2, -999);
        refused("50-", 3, 0);
        refused("05-", 3, 5);
        refused("f3", 5, 3);
        refused("t5@3", 6, 5);
        refused("t7@3", 6, 11);
        refused("5+a1;5+a1;5+a1;5+a1;5+a1;5+a1;5+a1", 7, 6);
        refused("e;e;e;e;e;e;e;e;e;e", 1, 12);
        refused("e;f4", 5, 4);
        refused("51c~5;51c5", 2, -5);
        refused("00-;00-", 3, 0);
        refused("e;00-;t0@4;t0@4", 6, 12);
        EveningLedger x = withoutInput();
        Check.same("just not refused", 9, Look.read(x, "e;e;e;e;e;e;e;e;e"));
        Check.same("12 are kept", 12, x.account(1));
    }

    /** Of the busy ledger, which keeps the evenings 0, 2 and 3 when its input is read. */
    private static void refused(String text, int reason, int detail) {
        Check.leaves(text, () -> Look.withInput(withoutInput(), text), Check.REFUSED, x -> x.read(),
            "reason", reason + ", " + detail, "input", "0");
    }

    private static void promise31TheFirstExceptionIsThrown() {
        Check.order();
        String malformed = Check.thrown(Check.ARGUMENT);
        String not = Check.thrown(Check.STATE);
        String refused = Check.thrown(Check.REFUSED);
        EveningLedger x = Look.after("00a1");
        Check.same("malformed behind a refusal", malformed, Look.read(x, "01-;!"));
        Check.same("malformed behind what is not there", malformed, Look.read(x, "80a1;!"));
        Check.fails("no reason is kept by that", Check.ELEMENT, () -> x.reason(false));
        Check.same("no person, at a place that is taken", not, Look.read(x, "00k1"));
        Check.same("a debt of 0, at a place that is taken", not, Look.read(x, "00a0"));
        Look.read(x, "0+a1;0+a1;0+a1;0+a1;0+a1");
        Check.same("no person, on a full page", not, Look.read(x, "0+k1"));
        Check.same("a debt of 0, on a full page", not, Look.read(x, "0+a0"));
        Check.same("on a full page", refused, Look.read(x, "0+a1"));
    }

    private static void promise32ErrorPosition() {
        Check.promise(32, "Throws `NoSuchElementException` if none was kept");
        Check.leaves("at first", EveningLedger::new, Check.ELEMENT, EveningLedger::errorPosition);
        EveningLedger x = new EveningLedger();
        Look.read(x, "e");
        Look.read(x, "00-");
        Look.read(x, "00a0");
        Check.fails("after a text, a refusal and what is not there", Check.ELEMENT, x::errorPosition);
        Check.promise(32, "Returns the error position that was kept last;");
        Look.read(x, "");
        Check.same("the least", 0, x.errorPosition());
        Look.read(x, "e;".repeat(30));
        Check.same("the greatest", 60, x.errorPosition());
        Look.read(x, "e;ee");
        Check.promise(32, "Returns the error position.");
        Check.same("one between them", 3, x.errorPosition());
        Check.same("asked twice", 3, x.errorPosition());
    }

    private static void promise32Stays() {
        Check.promise(32, "it stays until the next one is kept.");
        EveningLedger x = new EveningLedger();
        x.save();
        Look.read(x, "00a!");
        Look.read(x, "00-");
        Look.read(x, "99-");
        Look.read(x, "e");
        Check.same("after texts that are not malformed", 3, x.errorPosition());
        x.undo();
        Check.same("after undo", 3, x.errorPosition());
        x.restore();
        Check.same("after restore", 3, x.errorPosition());
        Look.read(x, "f");
        Check.same("the next one", 1, x.errorPosition());
    }

    private static void promise33Reason() {
        Check.promise(33, "Throws `NoSuchElementException` if none was kept");
        Check.leaves("at first", EveningLedger::new, Check.ELEMENT, x -> x.reason(false));
        Check.leaves("its detail", EveningLedger::new, Check.ELEMENT, x -> x.reason(true));
        EveningLedger x = new EveningLedger();
        Check.answer(() -> x.strike(0, 6));
        Check.answer(() -> x.write(0, 0, 'a', 0));
        Look.read(x, "00a0");
        Look.read(x, "00-!");
        Check.fails("after what is no refusal", Check.ELEMENT, () -> x.reason(false));
        Check.promise(33, "Returns the reason that was kept last, or its detail.");
        Check.answer(() -> x.strike(0, 5));
        Check.promise(33, "Returns the reason or the detail.");
        Check.same("the reason", 3, x.reason(false));
        Check.same("the detail", 5, x.reason(true));
        Check.answer(() -> x.forget(0));
        Check.same("the next reason", 5, x.reason(false));
        Check.same("a detail of 0", 0, x.reason(true));
        Check.same("asked twice", 5, x.reason(false));
    }

    private static void promise33IsReplaced() {
        Check.promise(33, "Returns the reason that was kept last, or its detail.");
        EveningLedger x = new EveningLedger();
        x.save();
        Check.answer(() -> x.strike(0, 5));
        x.add(0, 'a', -3);
        x.undo();
        x.restore();
        Look.read(x, "99-");
        Look.read(x, "9");
        Check.same("it stays: the reason", 3, x.reason(false));
        Check.same("it stays: the detail", 5, x.reason(true));
        x.add(0, 'a', -3);
        Look.read(x, "e;00b1");
        Check.same("that of a text", 2, x.reason(false));
        Check.same("its detail", -3, x.reason(true));
    }
}
