/** What the document says under "Terms" of texts, history and exceptions, and behind them, sentence by sentence. */
final class TermsOfTextsTest {
    private static final String MALFORMED = Check.thrown(Check.ARGUMENT);
    private static final String NOT_THERE = Check.thrown(Check.STATE);
    private static final String REFUSED = Check.thrown(Check.REFUSED);
    private static final String PRECISELY = "More precisely";
    private static final String A_CHANGE = "A change is a call of write, add, owe, strike, swap, evening, takeOver,"
        + " forget or read that returns without an exception.";
    private static final String REMEMBERED = "The object remembers everything except the reason, the input, the error"
        + " position, the line and what was saved, as it is just before a change, for at most 6 changes, of which the"
        + " oldest one is forgotten for good when there would be more.";
    private static final String SMALLEST_INDEX = "The error position of a text that is malformed is the smallest index"
        + " k such that no text starts with the first k + 1 characters of it;";
    private static final String SEMICOLONS = "A text consists of one or several commands with a semicolon between two"
        + " of them: a digit for a page, a digit for a place, a letter and a number writes an entry;";

    public static void main(String[] arguments) {
        inputIsABuffer();
        semicolonsBetweenTwo();
        commandsOfEntries();
        commandsOfEvenings();
        numbersInTexts();
        theFirstCommandThatCannotBeDone();
        errorPositions();
        errorPositionsBehindCommands();
        errorPositionAtTheEnd();
        changes();
        noChanges();
        whatIsRemembered();
        oldestIsForgotten();
        restoreForgets();
        exceptionsChangeNothing();
        firstExceptionIsThrown();
        questionsOnlyAnswer();
        linesAreWritten();
        lettersInTexts();
        countedAsStruckOut();
        changedToo();
        toForget();
        alone();
        numbersOfSheetsAreUsedAgain();
        takenOverFromNow();
        emptyPlaceIsNeverSwapped();
        debtsThatComeToZero();
        debtsBelowZeroInLines();
        Check.finish("Text", "History", "Exceptions", PRECISELY, "Besides");
    }

    private static void inputIsABuffer() {
        Check.terms("Text", "The input is a buffer of at most 60 characters.");
        EveningLedger x = new EveningLedger();
        Look.input(x, "75j~999;e;70a~999;e;71b~999;e;72c~999;e;73d~999;e;74e~999;f0");
        Check.same("it is full", 60, x.account(10));
        Check.fails("a 61st one", Check.STATE, () -> x.append('1'));
        Check.same("what it has is read", 12, x.read());
        Check.same("all of it", "a-999 b-999 c-999 d-999 e-999 j-999", Look.told(x, -1, 7));
        Check.same("to its last character", 1, x.keptAt(0));
        EveningLedger y = new EveningLedger();
        Look.input(y, "e;e;e;e;e;e;e;e;e;e;e;f0;f1;f2;f3;f4;f5;f6;f7;f8;f9;75j~999");
        Check.same("one of 59", 59, y.account(10));
        Check.same("the 60th one", 60, y.append('9'));
        Check.same("makes a number of four digits", MALFORMED, Check.answer(y::read));
        Check.same("and is the error position", 59, y.errorPosition());
    }

    private static void semicolonsBetweenTwo() {
        Check.terms("Text", SEMICOLONS);
        EveningLedger x = new EveningLedger();
        Check.same("one", 1, Look.read(x, "00a1"));
        Check.same("two", 2, Look.read(x, "01b~2;e"));
        Check.same("several", 3, Look.read(x, "e;75j999;e"));
        Check.same("the first page", "a1 b-2 . . . .", Look.told(x, -1, 0));
        Check.same("the last page", ". . . . . j999", Look.told(x, -1, 7));
        String[] wrong = {"", ";", ";e", "e;", "e;;e", "ee", "e,e", "e e", " e", "e ", "e; e", "00a1e", "00a1 01b2"};
        for (String text : wrong) {
            Check.same("\"" + text + "\"", MALFORMED, Look.read(x, text));
        }
        Check.same("nothing of them is done", 3, x.account(0));
    }

    private static void commandsOfEntries() {
        Check.terms("Text", "a digit for a page, \"+\", a letter and a number adds an entry at the first empty place;");
        EveningLedger x = new EveningLedger();
        Check.same("the first page and the last one", 4, Look.read(x, "0+a1;7+j~999;0+b2;02c3"));
        Check.same("a gap", 2, Look.read(x, "00-;0+d4"));
        Check.same("the first page", "d4 b2 c3 . . .", Look.told(x, -1, 0));
        Check.same("the last page", "j-999 . . . . .", Look.told(x, -1, 7));
        Check.same("the last empty place", 3, Look.read(x, "0+e5;0+f6;0+g7"));
        Check.same("then the page is full", REFUSED, Look.read(x, "0+h8"));
        Check.terms("Text", "a digit for a page, a digit for a place, \"-\" strikes the entry out;");
        Check.same("the first place and the last one", 2, Look.read(x, "00-;05-"));
        Check.same("the first page", ". b2 c3 e5 f6 .", Look.told(x, -1, 0));
        Check.same("struck out", 3, x.account(8));
        Check.same("twice", REFUSED, Look.read(x, "05-"));
        Check.same("on the last page", 1, Look.read(x, "70-"));
        Check.same("it is empty", 0, x.pageOf(-1, 7, 0));
    }

    private static void commandsOfEvenings() {
        Check.terms("Text", "\"e\" lets an evening come;");
        EveningLedger x = new EveningLedger();
        Check.same("one", 1, Look.read(x, "e"));
        Check.same("to the last one that fits", 10, Look.read(x, "e;e;e;e;e;e;e;e;e;e"));
        Check.same("kept", 12, x.account(1));
        Check.same("one more", REFUSED, Look.read(x, "e"));
        Check.terms("Text", "\"t\", a digit for a page, and \"@\" and a number takes a page over from an evening;");
        Look.read(x, "00a1;75j1");
        Check.same("from the beginning, the first page", 1, Look.read(x, "t0@0"));
        Check.same("from the latest one, the last page", 1, Look.read(x, "t7@11"));
        Check.same("both are empty", 0, x.account(5));
        Check.same("taken over", 2, x.account(9));
        Check.terms("Text", "\"f\" and a number forgets an evening.");
        Check.same("the beginning", 1, Look.read(x, "f0"));
        Check.same("the one ahead of the latest", 1, Look.read(x, "f010"));
        Check.same("the latest one", REFUSED, Look.read(x, "f11"));
        Check.same("kept", 10, x.account(1));
    }

    private static void numbersInTexts() {
        Check.terms("Text",
            "A number has one to three digits, and where it is a debt, \"~\" can stand ahead of it for one below 0.");
        EveningLedger x = new EveningLedger();
        Look.read(x, "00a9;01a99;02a999;03a~9;04a~99;05a~999");
        Check.same("one to three digits", "a9 a99 a999 a-9 a-99 a-999", Look.told(x, -1, 0));
        Look.read(x, "1+a01;1+a001;1+a~01;1+a~001;1+a010");
        Check.same("with a 0 ahead", "a1 a1 a-1 a-1 a10 .", Look.told(x, -1, 1));
        Check.same("evenings with a 0 ahead", 5, Look.read(x, "e;e;t0@00;t0@001;f000"));
        String[] wrong = {"20a", "20a~", "20a1000", "20a~1000", "20a0001", "20a~0001", "20a-1", "20a+1", "20a~~1",
            "20a1~", "2+a", "2+a~", "2+a1000", "2+a~1000", "t0@", "t0@~1", "t0@0001", "t0@-1", "f", "f~1", "f-1",
            "f0001", "f1000", "20~a1", "~20a1", "2~0a1"};
        for (String text : wrong) {
            Check.same(text, MALFORMED, Look.read(x, text));
        }
        Check.same("nothing of them is done", 3, x.account(11));
    }

    private static void theFirstCommandThatCannotBeDone() {
        Check.terms("Text", "The first command that cannot be done decides what is thrown.");
        EveningLedger x = Look.after("00a1");
        Check.same("what is not there, ahead of a refusal", NOT_THERE, Look.read(x, "80a1;01-"));
        Check.fails("no reason is kept by that", Check.ELEMENT, () -> x.reason(false));
        Check.same("a refusal, ahead of what is not there", REFUSED, Look.read(x, "01-;80a1"));
        Check.same("its reason", "3, 1", x.reason(false) + ", " + x.reason(true));
        Check.same("behind commands that can be done", REFUSED, Look.read(x, "e;01b1;01b2;f9"));
        Check.same("its reason", "2, 1", x.reason(false) + ", " + x.reason(true));
        Check.same("what is not there behind them", NOT_THERE, Look.read(x, "e;02b1;f9;02b2;00-"));
        Check.same("the reason stays", "2, 1", x.reason(false) + ", " + x.reason(true));
        Check.same("of two refusals the first", REFUSED, Look.read(x, "f0;05-"));
        Check.same("its reason", "5, 0", x.reason(false) + ", " + x.reason(true));
        Check.same("done once those ahead are", 3, Look.read(x, "e;f0;00-"));
    }

    private static void errorPositions() {
        Check.terms("Text", SMALLEST_INDEX);
        position(0, ";", " e", "E", "a", "g", "s", "-", "~1", "+a1", "@1", "/", ":", "z;e");
        position(1, "0x", "0-", "0@", "0;", "0/", "0:", "9,", "e1", "ee", "e ", "ta", "t@1", "t/", "t:", "f~1", "f-",
            "f/", "f:", "f;");
        position(2, "00+", "000", "00A1", "00{", "00`", "00~", "00;", "0+1", "0++", "0+`", "0+{", "0+~", "t00", "t0;",
            "t0A", "e;;", "e; e", "f0f", "f0~");
        position(3, "00-1", "00--", "00ab", "00a-1", "00a;", "00a/", "00a:", "0+a;", "0+aa", "t0@~1", "t0@;", "f00e");
        position(4, "00a~~1", "00a~;", "00a~-", "00a1a", "00a1 ", "00a1/", "0+a~;", "0+a1 ", "t0@1t", "f1234");
        position(5, "00a12-", "t0@12-", "00a~1a");
        position(6, "00a1234", "0+a1234", "t0@1234");
        position(7, "00a~1234", "0+a~1234");
    }

    private static void position(int due, String... texts) {
        for (String text : texts) {
            EveningLedger x = new EveningLedger();
            Check.same("\"" + text + "\"", MALFORMED, Look.read(x, text));
            Check.same("the error position of \"" + text + "\"", due, Check.answer(x::errorPosition));
        }
    }

    private static void errorPositionsBehindCommands() {
        Check.terms("Text", SMALLEST_INDEX);
        String[] commands = {"e;", "f1;", "f123;", "t7@12;", "00a1;", "99z~999;", "9+z000;", "99-;"};
        for (String command : commands) {
            int behind = command.length();
            position(behind, command + ";", command + "a");
            position(behind + 1, command + "ee", command + "0x");
            position(behind + 3, command + "00ax");
            position(behind + 6, command + "00a1234");
        }
        position(57, "99z~999;".repeat(7) + "ee");
        position(59, "99z~999;".repeat(7) + "00ax");
        position(59, "e;".repeat(29) + "ee");
    }

    private static void errorPositionAtTheEnd() {
        Check.terms("Text", "if there is no such index, it is the length of the text.");
        String[] texts = {"", "0", "9", "t", "f", "00", "99", "0+", "t0", "00a", "00z", "0+a", "t0@", "e;", "00a~",
            "0+a~", "e;0", "f1;", "00-;", "00a1;", "00a999;", "t0@1;", "t0@999;t", "99z~999;99z~"};
        for (String text : texts) {
            position(text.length(), text);
        }
        position(60, "e;".repeat(30));
        position(60, "e;".repeat(28) + "00a~");
        position(59, "e;".repeat(29) + "0");
    }

    private static EveningLedger withPages() {
        return Look.after("00a1;01b2;e;00-");
    }

    private static void changes() {
        Check.terms("History", A_CHANGE);
        isChange("write", x -> x.write(0, 0, 'a', 1));
        isChange("add", x -> x.add(7, 'a', 1));
        isChange("owe", x -> x.owe(0, 1, 1));
        isChange("owe by 0", x -> x.owe(0, 1, 0));
        isChange("owe to 0", x -> x.owe(0, 1, -2));
        isChange("strike", x -> x.strike(0, 1));
        isChange("swap", x -> x.swap(0, 1, 1));
        isChange("evening", EveningLedger::evening);
        isChange("takeOver", x -> x.takeOver(0, 1));
        isChange("forget", x -> x.forget(0));
        isChange("read", x -> Look.withInput(x, "e").read());
    }

    private static void isChange(String what, Check.Use change) {
        EveningLedger x = withPages();
        change.of(x);
        Check.same(what + " is one", 2, x.account(11));
    }

    private static void noChanges() {
        Check.terms("History", A_CHANGE);
        Check.Use[] calls = {x -> x.write(0, 1, 'a', 1), x -> x.write(0, 0, 'a', 0), x -> x.add(8, 'a', 1),
            x -> x.owe(0, 0, 1), x -> x.strike(0, 0), x -> x.swap(0, 0, 1), x -> x.takeOver(1, 0),
            x -> x.forget(1), x -> x.forget(-1), x -> x.read(), x -> Look.read(x, "00a0"), x -> Look.read(x, "00-"),
            x -> x.append('e'), x -> x.tell(0, 0), x -> x.show(0), x -> x.save()};
        for (int index = 0; index < calls.length; index++) {
            EveningLedger x = withPages();
            int call = index;
            Check.answer(() -> calls[call].of(x));
            Check.same("call " + index + " is none", 1, x.account(11));
        }
        EveningLedger x = Look.fullOfEvenings();
        Check.answer(x::evening);
        x.undo();
        Check.same("a refused evening and undo are none", 10, x.account(0));
        x.undo();
        Check.same("an evening less again", 9, x.account(0));
    }

    private static void whatIsRemembered() {
        Check.terms("History", REMEMBERED);
        EveningLedger x = Look.busy();
        String before = Look.accounts(x) + Look.days(x);
        Look.read(x, ";00-;01-;e;5+a1;t7@0;f0");
        x.show(2);
        Check.answer(() -> x.write(5, 0, 'b', 2));
        Look.read(x, "t0!");
        Look.input(x, "e");
        x.undo();
        Check.same("everything", before, Look.accounts(x) + Look.days(x));
        Check.same("except the reason", "2, 1", x.reason(false) + ", " + x.reason(true));
        Check.same("and the input", 1, x.account(10));
        Check.same("and the error position", 2, x.errorPosition());
        Check.same("and the line", "10!,1!,2!,3!,4!,5!,6!,9!", Look.line(x));
        Check.same("and what was saved", 2, x.restore());
    }

    private static void oldestIsForgotten() {
        Check.terms("History", REMEMBERED);
        EveningLedger x = Look.after("00a1");
        for (int change = 2; change <= 6; change++) {
            x.owe(0, 0, 1);
        }
        Check.same("six are remembered", 6, x.account(11));
        for (int left = 5; left >= 0; left--) {
            Check.same("left", left, x.undo());
        }
        Check.same("to the first one", 0, x.account(5));
        EveningLedger y = Look.after("00a1");
        for (int change = 2; change <= 7; change++) {
            y.owe(0, 0, 1);
        }
        for (int left = 5; left >= 0; left--) {
            Check.same("left", left, y.undo());
        }
        Check.fails("the seventh one is forgotten", Check.ELEMENT, y::undo);
        Check.same("for good", 1, y.debtAt(-1, 0, 0));
        EveningLedger z = new EveningLedger();
        z.write(0, 0, 'a', 1);
        for (int change = 2; change <= 505; change++) {
            z.owe(0, 0, change % 2 == 0 ? 3 : -2);
        }
        for (int left = 5; left >= 0; left--) {
            Check.same("after 505 changes", left, z.undo());
        }
        Check.same("the 512th call of the object", 1 + 250 - 1, z.debtAt(-1, 0, 0));
    }

    private static void restoreForgets() {
        Check.terms("History", "restore forgets all of them.");
        EveningLedger x = Look.busy();
        x.restore();
        Check.same("none is remembered", 0, x.account(11));
        Check.fails("none can be undone", Check.ELEMENT, x::undo);
        x.evening();
        Check.same("a change behind it", 0, x.undo());
        Check.fails("no more", Check.ELEMENT, x::undo);
    }

    private static void exceptionsChangeNothing() {
        Check.terms("Exceptions",
            "A method that throws an exception leaves the state unchanged, unless its documentation says otherwise.");
        Check.leaves("write", Look::busy, Check.INDEX, x -> x.write(0, 6, 'a', 1));
        Check.leaves("add", Look::busy, Check.ARGUMENT, x -> x.add(0, 'a', 1000));
        Check.refuses("owe", Look::busy, 4, 1, x -> x.owe(7, 0, 1));
        Check.refuses("strike", Look::busy, 3, 5, x -> x.strike(0, 5));
        Check.refuses("swap", Look::busy, 3, 1, x -> x.swap(7, 0, 1));
        Check.refuses("evening", Look::fullOfEvenings, 1, 12, x -> x.evening());
        Check.refuses("takeOver", Look::busy, 6, 1, x -> x.takeOver(1, 0));
        Check.refuses("forget", Look::busy, 5, 2, x -> x.forget(2));
        Check.leaves("tell", Look::busy, Check.ARGUMENT, x -> x.tell(0, 8));
        Check.leaves("show", Look::busy, Check.INDEX, x -> x.show(1));
        Check.leaves("append", Look::busy, Check.ARGUMENT, x -> x.append((char) 127));
        Check.leaves("undo", EveningLedger::new, Check.ELEMENT, x -> x.undo());
        Check.leaves("restore", EveningLedger::new, Check.STATE, x -> x.restore());
        Check.leaves("read, which says that the input is empty then",
            () -> Look.withInput(new EveningLedger(), "00a1;e;81-"), Check.STATE, x -> x.read(), "input", "0");
    }

    private static void firstExceptionIsThrown() {
        Check.order();
        Check.leaves("write", Look::busy, Check.INDEX, x -> x.write(0, 6, 'k', 0));
        Check.leaves("write at a place that is taken", Look::busy, Check.ARGUMENT, x -> x.write(0, 0, 'a', 0));
        Check.leaves("add", Look::busy, Check.INDEX, x -> x.add(8, 'k', 0));
        Check.leaves("add to a full page", () -> Look.filled('a', 1), Check.ARGUMENT, x -> x.add(0, 'k', 1));
        Check.leaves("owe", Look::busy, Check.INDEX, x -> x.owe(0, 6, 1000));
        Check.leaves("owe at an empty place", Look::busy, Check.ARGUMENT, x -> x.owe(0, 5, 1000));
        Check.leaves("swap at an empty place", Look::busy, Check.INDEX, x -> x.swap(0, 5, 6));
        Check.leaves("personAt", Look::busy, Check.INDEX, x -> x.personAt(1, 8, 6));
        Check.leaves("personAt of no page", Look::busy, Check.ARGUMENT, x -> x.personAt(0, 8, 0));
        Check.leaves("debtAt", Look::busy, Check.INDEX, x -> x.debtAt(1, 8, 6));
        Check.leaves("pageOf", Look::busy, Check.INDEX, x -> x.pageOf(1, 8, 5));
        Check.leaves("isLike", Look::busy, Check.INDEX, x -> x.isLike(0, 1, 8));
        Check.leaves("debt", Look::busy, Check.INDEX, x -> x.debt(1, 'k'));
        Check.leaves("debtAgain", Look::busy, Check.INDEX, x -> x.debtAgain(1, 'k'));
        Check.leaves("owing", Look::busy, Check.INDEX, x -> x.owing(1, -1));
        Check.leaves("greatest", Look::busy, Check.INDEX, x -> x.greatest(1, -1));
        Check.leaves("find", Look::busy, Check.INDEX, x -> x.find(1, 'k'));
        Check.leaves("tell", Look::busy, Check.INDEX, x -> x.tell(1, 8));
        Check.leaves("append to a full input", () -> Look.withInput(new EveningLedger(), "e".repeat(60)),
            Check.ARGUMENT, x -> x.append((char) 31));
    }

    private static void questionsOnlyAnswer() {
        Check.terms("Exceptions", "Methods whose documentation does not mention a change only answer a question.");
        Check.Use[] questions = {x -> x.personAt(2, 0, 0), x -> x.debtAt(-1, 0, 5), x -> x.pageOf(2, 7, 0),
            x -> x.pageOf(2, 7, 1), x -> x.pageOf(2, 7, 2), x -> x.pageOf(2, 7, 3), x -> x.pageOf(2, 7, 4),
            x -> x.keptAt(1), x -> x.sheetsApart(0, -1), x -> x.placesApart(2, -1), x -> x.isLike(0, 2, 7),
            x -> x.debt(2, 'a'), x -> x.debtAgain(-1, 'b'), x -> x.greatestOn('a'), x -> x.without('a'),
            x -> x.owing(-1, 0), x -> x.greatest(2, 0), x -> x.find(-1, 'a'), x -> x.character(0),
            x -> x.meanDebt(2), x -> x.aloneShare(), x -> x.errorPosition(), x -> x.reason(false),
            x -> x.reason(true)};
        for (int index = 0; index < questions.length; index++) {
            Check.onlyAnswers("question " + index, Look::busy, questions[index]);
        }
        for (int account = 0; account <= 11; account++) {
            int asked = account;
            Check.onlyAnswers("account " + account, Look::busy, x -> x.account(asked));
        }
    }

    private static void linesAreWritten() {
        Check.terms("Exceptions", "Methods whose documentation does not mention a change only answer a question.");
        Check.onlyAnswers("tell, but for the line", Look::busy, x -> x.tell(2, 0), "line", "a5 b-6 c7 . . .");
        Check.onlyAnswers("show, but for the line", Look::busy, x -> x.show(2), "line", "10!,1,2,3,4,5,6,9!");
        Check.onlyAnswers("append, but for the input", Look::busy, x -> x.append(' '), "input", "2");
    }

    private static void lettersInTexts() {
        Check.terms(PRECISELY, "A letter in a text is any from \"a\" to \"z\";");
        Check.terms(PRECISELY, "one that is no person is told like other numbers out of range.");
        for (char letter = 'a'; letter <= 'z'; letter++) {
            Object due = letter <= 'j' ? (Object) 1 : NOT_THERE;
            Check.same("write " + letter, due, Look.read(new EveningLedger(), "00" + letter + "1"));
            Check.same("add " + letter, due, Look.read(new EveningLedger(), "7+" + letter + "~9"));
        }
        for (char sign : new char[] {'`', '{', 'A', 'J', 'Z', '@', ' '}) {
            Check.same("write " + sign, MALFORMED, Look.read(new EveningLedger(), "00" + sign + "1"));
            Check.same("add " + sign, MALFORMED, Look.read(new EveningLedger(), "0+" + sign + "1"));
        }
        Check.same("a page", NOT_THERE, Look.read(new EveningLedger(), "80a1"));
        Check.same("a place", NOT_THERE, Look.read(new EveningLedger(), "06a1"));
    }

    private static void countedAsStruckOut() {
        Check.terms(PRECISELY, "A debt that becomes 0 counts as an entry struck out.");
        EveningLedger x = Look.after("00a999;01b~1");
        x.owe(0, 0, -999);
        Check.same("from above", 1, x.account(8));
        x.owe(0, 1, 1);
        Check.same("from below", 2, x.account(8));
        Check.same("entries now", 0, x.account(5));
        Check.same("written", 2, x.account(7));
        x.undo();
        Check.same("undone", 1, x.account(8));
        x.owe(0, 1, 2);
        Check.same("a debt that does not", 1, x.account(8));
    }

    private static void changedToo() {
        Check.terms(PRECISELY, "An entry that is made more by 0, or swapped with itself, is changed, too.");
        EveningLedger x = Look.after("00a5;e");
        x.owe(0, 0, 0);
        Check.same("made more by 0: a copy", 2, x.account(4));
        Check.same("a change", 2, x.account(11));
        x.evening();
        x.swap(0, 0, 0);
        Check.same("swapped with itself: a copy", 3, x.account(4));
        Check.same("a change", 4, x.account(11));
        Check.same("its entries", "a5 . . . . .", Look.told(x, -1, 0));
        x.swap(0, 0, 0);
        x.owe(0, 0, 0);
        Check.same("no copy of what now has alone", 3, x.account(4));
        Check.same("changes", 6, x.account(11));
        Check.same("written, struck out", "1 0", x.account(7) + " " + x.account(8));
    }

    private static void toForget() {
        Check.terms(PRECISELY, "To forget needs a kept evening, and not -1.");
        Check.leaves("now", Look::busy, Check.INDEX, x -> x.forget(-1));
        Check.leaves("one that is forgotten", Look::busy, Check.INDEX, x -> x.forget(1));
        Check.leaves("one that has not come", Look::busy, Check.INDEX, x -> x.forget(3));
        EveningLedger x = Look.busy();
        Check.same("one that is kept", 2, x.forget(0));
        Check.fails("it is kept no longer", Check.INDEX, () -> x.forget(0));
        x.undo();
        Check.same("it is kept again", 2, x.forget(0));
    }

    private static void alone() {
        Check.terms(PRECISELY, "Now counts among those that have a sheet for themselves alone, and a sheet is looked"
            + " for on the same page alone.");
        EveningLedger x = Look.after("00a1;e;e;f0");
        Check.same("none", 0f, x.aloneShare());
        x.owe(0, 0, 1);
        Check.same("that of now", 1f / 24f, x.aloneShare());
        x.takeOver(0, 1);
        Check.same("none, as now has that of the evenings", 0f, x.aloneShare());
        EveningLedger y = Look.after("7+a1;e;0+a1");
        Check.same("one of the beginning and one of now", 2f / 24f, y.aloneShare());
        Check.same("evenings with the sheet that the last page has", 1, y.pageOf(-1, 7, 3));
        Check.same("evenings with the sheet that the first page has", 0, y.pageOf(-1, 0, 3));
        Check.same("new ones of the evening", "0,1,2,3,4,5,6,8!", Look.shown(y, 1));
    }

    private static void numbersOfSheetsAreUsedAgain() {
        Check.terms("Besides", "Numbers of sheets that an undone change made are used again.");
        EveningLedger x = new EveningLedger();
        x.add(0, 'a', 1);
        x.undo();
        Check.same("sheets made", 8, x.account(3));
        Check.same("copies", 0, x.account(4));
        x.add(5, 'a', 1);
        Check.same("on another page", 8, x.pageOf(-1, 5, 2));
        Check.same("the first page has its own", 0, x.pageOf(-1, 0, 2));
        Look.read(x, "0+a1;1+a1;2+a1");
        x.undo();
        Look.read(x, "7+a1;6+a1");
        Check.same("three of a text", "9 10", x.pageOf(-1, 7, 2) + " " + x.pageOf(-1, 6, 2));
        x.evening();
        x.undo();
        Check.same("so is the number of an evening", 1, x.evening());
    }

    private static void takenOverFromNow() {
        Check.terms("Besides", "A page can be told to be taken over from now;");
        Check.terms("Besides", "it has its sheet already then.");
        Check.refuses("the first page", EveningLedger::new, 6, 0, x -> x.takeOver(0, -1));
        Check.refuses("the last page", EveningLedger::new, 6, 7, x -> x.takeOver(7, -1));
        Check.refuses("one that now has alone", Look::busy, 6, 12, x -> x.takeOver(0, -1));
        Check.same("a text can't", MALFORMED, Look.read(new EveningLedger(), "t0@-1"));
    }

    private static void emptyPlaceIsNeverSwapped() {
        Check.terms("Besides", "An empty place is never swapped.");
        Check.refuses("with an entry", Look::busy, 3, 5, x -> x.swap(0, 5, 0));
        Check.refuses("an entry with it", Look::busy, 3, 5, x -> x.swap(0, 0, 5));
        Check.refuses("with an empty one", Look::busy, 3, 4, x -> x.swap(0, 4, 5));
        Check.refuses("with itself", Look::busy, 3, 5, x -> x.swap(0, 5, 5));
    }

    private static void debtsThatComeToZero() {
        Check.terms("Besides", "People whose debts come to 0 stand in their order, too.");
        EveningLedger x = Look.after("00e1;01e~1;02c5;03j~5");
        Check.same("ahead", 'c', x.owing(-1, 0));
        Check.same("between", 'e', x.owing(-1, 1));
        Check.same("behind", 'j', x.owing(-1, 2));
        Check.fails("nobody else", Check.ELEMENT, () -> x.owing(-1, 3));
        EveningLedger y = Look.after("00b1;01b~1;70a2;75a~2");
        Check.same("of two, the lower letter", 'a', y.owing(-1, 0));
        Check.same("then the other one", 'b', y.owing(-1, 1));
    }

    private static void debtsBelowZeroInLines() {
        Check.terms("Besides", "A line tells a debt below 0 with \"-\".");
        EveningLedger x = Look.after("00a~1;01a~999;02a1;05j~10");
        Check.same("a line", "a-1 a-999 a1 . . j-10", Look.told(x, -1, 0));
    }
}
