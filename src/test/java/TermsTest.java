/** What the document says at its beginning, and under "Terms" of pages, evenings, sheets, debts and refusals, sentence by sentence. */
final class TermsTest {
    public static void main(String[] arguments) {
        upTo512Calls();
        numbers();
        oldEvenings();
        pagesAndPlaces();
        placesAreEmptyOrHaveEntries();
        severalEntriesOfAPerson();
        theBeginning();
        changesByDay();
        eveningsAreKept();
        atMostTwelve();
        askedAboutEvenings();
        notTheLatestOne();
        numbersAreNotUsedAgain();
        eachPageIsOnASheet();
        sameSheetsAsNow();
        aCopy();
        theSheetItself();
        sheetsAreNumbered();
        sheetsAtTheBeginning();
        aSheetIsGone();
        nothingDifferent();
        takenOver();
        sumOfDebts();
        owesMore();
        reasonsOfPlaces();
        reasonsOfEvenings();
        reasonsOfPages();
        Check.finish(Sentences.TERMS, "Pages and entries", "Evenings", "Sheets", "Taking over", "Debts", "Refusals");
    }

    private static void upTo512Calls() {
        Check.terms(Sentences.WHAT_IT_IS, "An object is used for at most 512 calls after it has been made;");
        EveningLedger x = new EveningLedger();
        x.add(0, 'a', 1);
        for (int evening = 1; evening <= 170; evening++) {
            x.evening();
            x.owe(0, 0, 1);
            x.forget(evening - 1);
        }
        Check.same("the 512th call tells the 170th copy", "178!,1,2,3,4,5,6,7".length(), x.show(-1));
        EveningLedger y = new EveningLedger();
        for (int text = 1; text <= 170; text++) {
            y.append('0');
            y.append(text % 2 == 1 ? 'e' : '!');
            Check.fails("the text " + text, Check.ARGUMENT, y::read);
        }
        y.append('e');
        Check.same("the 512th call lets an evening come", 1, y.read());
        EveningLedger z = new EveningLedger();
        z.add(0, 'a', 1);
        for (int time = 1; time <= 127; time++) {
            z.owe(0, 0, 1);
            z.save();
            z.owe(0, 0, 5);
            z.restore();
        }
        Check.same("saved", 1, z.save());
        Check.same("struck out", 128, z.strike(0, 0));
        Check.same("the 512th call restores", 1, z.restore());
    }

    private static void numbers() {
        Check.terms("Terms", "All numbers are integers but two;");
        EveningLedger x = Look.after("00a1;01a2;02b~4;03b~5");
        Check.same("the one, not rounded", -1.5, x.meanDebt(-1));
        Check.same("the other one, not rounded", 0.125f, x.aloneShare());
        Check.terms("Terms", "divisions are rounded down, unless told otherwise.");
        Check.same("the greatest mean below 0", -1.0 / 3.0, Look.after("00a1;01a1;02a~3").meanDebt(-1));
        Check.same("the least share", 1f / 24f, Look.after("00a1;e").aloneShare());
    }

    private static void oldEvenings() {
        Check.terms("Terms", "An old evening answers as then.");
        EveningLedger x = Look.after("00a1;01b2;75j~3;e;00-;75-");
        String then = Look.day(x, 1);
        String beginning = Look.day(x, 0);
        Look.read(x, "e;t0@0;7+c4;f0");
        x.swap(7, 0, 0);
        x.owe(7, 0, 1);
        Check.same("after all kinds of changes", then, Look.day(x, 1));
        Check.same("its order", 'b', x.owing(1, 0));
        Check.same("its entries", 75, x.greatest(1, 2));
        Check.same("its mean", 0.0, x.meanDebt(1));
        x.undo();
        x.undo();
        x.undo();
        Check.same("after undo", then, Look.day(x, 1));
        Check.same("that at the beginning after undo", beginning, Look.day(x, 0));
    }

    private static void pagesAndPlaces() {
        Check.terms("Pages and entries",
            "The ledger has 8 pages, numbered from 0, each with 6 places, numbered from 0.");
        EveningLedger x = new EveningLedger();
        for (int spot = 0; spot < 48; spot++) {
            Check.same("an entry on page " + spot / 6, spot % 6 + 1, x.write(spot / 6, spot % 6, 'a', spot + 1));
        }
        for (int spot = 0; spot < 48; spot++) {
            Check.same("its own debt", spot + 1, x.debtAt(-1, spot / 6, spot % 6));
        }
        Check.fails("page 8", Check.INDEX, () -> x.write(8, 0, 'a', 1));
        Check.fails("place 6", Check.INDEX, () -> x.write(0, 6, 'a', 1));
        Check.fails("page -1", Check.INDEX, () -> x.write(-1, 5, 'a', 1));
        Check.fails("place -1", Check.INDEX, () -> x.write(7, -1, 'a', 1));
        Check.same("entries", 48, x.account(5));
    }

    private static void placesAreEmptyOrHaveEntries() {
        Check.terms("Pages and entries", "A place is empty, as at first, or has an entry: a person, a small letter from"
            + " \"a\" to \"j\", and a debt from -999 to 999, which is never 0.");
        EveningLedger x = new EveningLedger();
        Check.same("at first", 0, x.debtAt(-1, 0, 0));
        Check.fails("nobody at first", Check.ELEMENT, () -> x.personAt(-1, 0, 0));
        for (char person = 'a'; person <= 'j'; person++) {
            int index = person - 'a';
            x.write(index / 6, index % 6, person, index % 2 == 0 ? -999 : 999);
            Check.same("the person", person, x.personAt(-1, index / 6, index % 6));
        }
        Check.same("the least debt", -999, x.debtAt(-1, 0, 0));
        Check.same("the greatest debt", 999, x.debtAt(-1, 1, 3));
        Check.fails("person `", Check.ARGUMENT, () -> x.add(2, '`', 1));
        Check.fails("person k", Check.ARGUMENT, () -> x.add(2, 'k', 1));
        Check.fails("a debt of 1000", Check.ARGUMENT, () -> x.add(2, 'a', 1000));
        Check.fails("a debt of -1000", Check.ARGUMENT, () -> x.add(2, 'a', -1000));
        Check.fails("a debt of 0", Check.ARGUMENT, () -> x.add(2, 'a', 0));
        x.owe(0, 0, 999);
        Check.fails("nobody at a debt of 0", Check.ELEMENT, () -> x.personAt(-1, 0, 0));
    }

    private static void severalEntriesOfAPerson() {
        Check.terms("Pages and entries", "A person can have several entries on a page.");
        EveningLedger x = new EveningLedger();
        Look.fill(x, 7, 'j', -2);
        Check.same("six", 6, x.pageOf(-1, 7, 0));
        Check.same("of one", 1, x.pageOf(-1, 7, 4));
        Check.same("their sum", -12, x.debt(-1, 'j'));
        Check.same("the first of them", 70, x.find(-1, 'j'));
    }

    private static void theBeginning() {
        Check.terms("Evenings", "The evening 0 is that at the beginning, with empty pages.");
        EveningLedger x = Look.filled('a', 1);
        Check.same("it is kept", 0, x.keptAt(0));
        for (int page = 0; page < 8; page++) {
            Check.same("an empty page", ". . . . . .", Look.told(x, 0, page));
            Check.same("its sheet", page, x.pageOf(0, page, 2));
        }
        x.evening();
        Check.same("no entries then", 0, x.pageOf(0, 0, 0));
    }

    private static void changesByDay() {
        Check.terms("Evenings", "Changes are made by day, on the ledger as it is now.");
        EveningLedger x = Look.after("00a1;75j1;e;00-;e");
        String days = Look.days(x).replaceAll("\n-1:.*", "");
        x.write(0, 0, 'b', 2);
        x.add(0, 'c', 3);
        x.owe(7, 5, 1);
        x.swap(0, 0, 1);
        x.strike(7, 5);
        x.takeOver(7, 1);
        Check.same("no evening is touched", days, Look.days(x).replaceAll("\n-1:.*", ""));
        Check.same("now is", "c3 b2 . . . .", Look.told(x, -1, 0));
        Check.same("on the last page, too", ". . . . . j1", Look.told(x, -1, 7));
    }

    private static void eveningsAreKept() {
        Check.terms("Evenings",
            "When an evening comes, the ledger is kept as it is, by the number of this evening, from 1 on;");
        EveningLedger x = Look.after("00a1;75j~1");
        Check.same("the first one", 1, x.evening());
        x.owe(0, 0, 1);
        Check.same("the second one", 2, x.evening());
        x.owe(0, 0, 1);
        Check.same("on the first one", "1 -1", x.debtAt(1, 0, 0) + " " + x.debtAt(1, 7, 5));
        Check.same("on the second one", "2 -1", x.debtAt(2, 0, 0) + " " + x.debtAt(2, 7, 5));
        Check.same("now", "3 -1", x.debtAt(-1, 0, 0) + " " + x.debtAt(-1, 7, 5));
        Check.same("at the beginning", 0, x.debtAt(0, 0, 0));
    }

    private static void atMostTwelve() {
        Check.terms("Evenings", "at most 12 evenings are kept at a time, that at the beginning included.");
        EveningLedger x = new EveningLedger();
        x.write(0, 0, 'a', 1);
        for (int evening = 1; evening <= 11; evening++) {
            Check.same("it comes", evening, Check.answer(x::evening));
            x.owe(0, 0, 1);
        }
        Check.fails("the next one does not", Check.REFUSED, x::evening);
        Check.same("kept", 12, x.account(1));
        for (int evening = 0; evening <= 11; evening++) {
            Check.same("the debt on " + evening, evening, x.debtAt(evening, 0, 0));
        }
        Check.same("the debt now", 12, x.debtAt(-1, 0, 0));
        x.forget(0);
        Check.same("when that at the beginning is forgotten", 12, x.evening());
        Check.same("the debt on the latest one", 12, x.debtAt(12, 0, 0));
        Check.same("the debt on the earliest one", 1, x.debtAt(1, 0, 0));
        Check.fails("then no more", Check.REFUSED, x::evening);
        x.forget(6);
        Check.same("when one between them is forgotten", 13, x.evening());
        Check.same("kept", 12, x.account(1));
    }

    private static void askedAboutEvenings() {
        Check.terms("Evenings", "What is asked about an evening is told as the ledger was then;");
        EveningLedger x = Look.after("00a1;e;00-;00b2");
        Check.same("then", "a1 . . . . .", Look.told(x, 1, 0));
        Check.same("at the beginning", ". . . . . .", Look.told(x, 0, 0));
        Check.terms("Evenings", "now is told by -1 in place of an evening.");
        Check.same("now", "b2 . . . . .", Look.told(x, -1, 0));
        x.forget(0);
        Check.same("now, when one is forgotten", "b2 . . . . .", Look.told(x, -1, 0));
        Check.fails("-2 is nothing", Check.INDEX, () -> x.tell(-2, 0));
        EveningLedger y = Look.fullOfEvenings();
        y.add(7, 'j', 9);
        Check.same("now, when 12 are kept", 9, y.debt(-1, 'j'));
        Check.same("the latest of 12", 0, y.debt(11, 'j'));
    }

    private static void notTheLatestOne() {
        Check.terms("Evenings", "Evenings can be forgotten, but not the latest one that is kept;");
        EveningLedger x = Look.fullOfEvenings();
        for (int evening = 0; evening <= 10; evening++) {
            Check.fails("the latest one", Check.REFUSED, () -> x.forget(11));
            x.forget(evening);
        }
        Check.same("one is left", 1, x.account(1));
        Check.fails("that one", Check.REFUSED, () -> x.forget(11));
        x.evening();
        Check.same("when another one is the latest", 0, x.forget(11));
    }

    private static void numbersAreNotUsedAgain() {
        Check.terms("Evenings", "the numbers of the others stay, and are not used again.");
        EveningLedger x = new EveningLedger();
        x.write(0, 0, 'a', 1);
        for (int evening = 1; evening <= 120; evening++) {
            Check.same("the next number", evening, x.evening());
            x.owe(0, 0, 1);
            if (evening >= 2) {
                x.forget(evening - 2);
            }
        }
        Check.same("kept", 2, x.account(1));
        Check.same("the earliest one", 119, x.keptAt(0));
        Check.same("its debt", 119, x.debtAt(119, 0, 0));
        Check.same("the latest one", 120, x.keptAt(1));
        Check.same("its debt", 120, x.debtAt(120, 0, 0));
        Check.same("a text that tells it", 3, Look.read(x, "t0@120;t0@119;f119"));
        Check.same("the debt now", 119, x.debtAt(-1, 0, 0));
        Check.fails("a number that was used", Check.INDEX, () -> x.show(118));
    }

    private static void eachPageIsOnASheet() {
        Check.terms("Sheets", "Each page is on a sheet.");
        EveningLedger x = Look.after("00a1;70b1;e;00-;e");
        for (int evening = -1; evening <= 2; evening++) {
            for (int page = 0; page < 8; page++) {
                int due = page == 0 ? (evening == 0 ? 0 : evening == 1 ? 8 : 10) : page == 7 && evening != 0 ? 9 : page;
                Check.same("page " + page + " on " + evening, due, x.pageOf(evening, page, 2));
            }
        }
    }

    private static void sameSheetsAsNow() {
        Check.terms("Sheets", "When an evening comes, it has the same sheets as now.");
        EveningLedger x = Look.after("0+a1;3+a1;7+a1");
        x.evening();
        Check.same("no page is apart", 0, x.sheetsApart(1, -1));
        Check.same("the evening's", "8!,1,2,9!,4,5,6,10!", Look.shown(x, 1));
        Check.same("those of now", "8,1,2,9,4,5,6,10", Look.shown(x, -1));
        Check.same("none is made", 11, x.account(3));
        Check.same("none is gone", 11, x.account(2));
    }

    private static void aCopy() {
        Check.terms("Sheets", "When something on a page is changed, and its sheet is one that a kept evening has, too,"
            + " a new sheet is made ahead of that, with all entries of the old one, which is the sheet of this page"
            + " now: that is a copy.");
        EveningLedger x = Look.after("30a1;31b2;32c3;33d4;34e5;e");
        copied(x, y -> y.write(3, 5, 'f', 6), 9, "a1 b2 c3 d4 e5 f6");
        copied(x, y -> y.owe(3, 5, 1), 10, "a1 b2 c3 d4 e5 f7");
        copied(x, y -> y.strike(3, 0), 11, ". b2 c3 d4 e5 f7");
        copied(x, y -> y.add(3, 'g', 1), 12, "g1 b2 c3 d4 e5 f7");
        copied(x, y -> y.swap(3, 0, 5), 13, "f7 b2 c3 d4 e5 g1");
        copied(x, y -> y.owe(3, 5, -1), 14, "f7 b2 c3 d4 e5 .");
        Look.read(x, "30-;3+h9");
        Check.same("one copy for a text", 15, x.pageOf(-1, 3, 2));
        Check.same("copies", 8, x.account(4));
        EveningLedger z = Look.after("00a1;e");
        z.forget(0);
        z.owe(0, 0, 1);
        Check.same("that the latest one alone has", 9, z.pageOf(-1, 0, 2));
        EveningLedger older = Look.after("00a1;e;00-;e;f0");
        older.takeOver(0, 1);
        older.owe(0, 0, 1);
        Check.same("that an older one alone has", 10, older.pageOf(-1, 0, 2));
        Check.same("which stays as it was", 1, older.debtAt(1, 0, 0));
    }

    private static void copied(EveningLedger x, Check.Use change, int sheet, String page) {
        change.of(x);
        Check.same("the sheet", sheet, x.pageOf(-1, 3, 2));
        Check.same("its entries", page, Look.told(x, -1, 3));
        x.evening();
    }

    private static void theSheetItself() {
        Check.terms("Sheets", "Otherwise the sheet itself is changed.");
        EveningLedger x = Look.after("00a1;e;00-");
        x.write(0, 3, 'b', 2);
        x.add(0, 'c', 3);
        x.owe(0, 0, 1);
        x.swap(0, 0, 3);
        x.strike(0, 3);
        Check.same("it is the sheet of now still", 9, x.pageOf(-1, 0, 2));
        Check.same("sheets made", 10, x.account(3));
        EveningLedger y = Look.after("00a1;e;00-;e");
        y.takeOver(0, 1);
        y.forget(1);
        y.owe(0, 0, 1);
        Check.same("what an evening had that is forgotten", 8, y.pageOf(-1, 0, 2));
        Check.same("no copy of that", 2, y.account(4));
        y.add(7, 'a', 1);
        Check.same("another page is copied", 10, y.pageOf(-1, 7, 2));
    }

    private static void sheetsAreNumbered() {
        Check.terms("Sheets", "Sheets are numbered in the order in which they were made, from 0;");
        EveningLedger x = new EveningLedger();
        Check.same("the first one", 0, x.pageOf(0, 0, 2));
        for (int page = 7; page >= 0; page--) {
            x.add(page, 'a', 1);
            Check.same("the next one", 15 - page, x.pageOf(-1, page, 2));
        }
        x.takeOver(7, 0);
        Check.same("the number of one that is gone", 15, x.account(2));
        x.add(7, 'a', 1);
        Check.same("is not used again", 16, x.pageOf(-1, 7, 2));
        Check.same("made", 17, x.account(3));
    }

    private static void sheetsAtTheBeginning() {
        Check.terms("Sheets", "at the beginning there are 8, one for each page, which the evening 0 has, too.");
        EveningLedger x = new EveningLedger();
        Check.same("made", 8, x.account(3));
        Check.same("not gone", 8, x.account(2));
        Check.same("copies", 0, x.account(4));
        for (int page = 0; page < 8; page++) {
            Check.same("that of now", page, x.pageOf(-1, page, 2));
            Check.same("the evening 0 has it", 1, x.pageOf(-1, page, 3));
        }
        Check.same("no page is apart", 0, x.sheetsApart(0, -1));
        x.add(0, 'a', 1);
        Check.same("so that the first change makes a copy", 1, x.account(4));
    }

    private static void aSheetIsGone() {
        Check.terms("Sheets", "A sheet that neither now nor a kept evening has is gone.");
        EveningLedger x = Look.after("00a1;e;00-;e");
        Check.same("three for the first page", 10, x.account(2));
        Check.same("the one of an evening that is forgotten", 1, x.forget(1));
        Check.same("it is gone", 9, x.account(2));
        x.add(0, 'b', 1);
        Check.same("a copy", 10, x.account(2));
        x.takeOver(0, 0);
        Check.same("the one of now is gone", 9, x.account(2));
        EveningLedger y = Look.after("00a1;e;00-;e");
        y.takeOver(0, 1);
        Check.same("one that now has alone then", 0, y.forget(1));
        Check.same("is not gone", 10, y.account(2));
        y.takeOver(0, 2);
        Check.same("until another one is taken over", 9, y.account(2));
    }

    private static void nothingDifferent() {
        Check.terms("Sheets", "A change that is told and makes nothing different makes a copy all the same.");
        EveningLedger x = Look.after("00a1;05a1;e");
        x.owe(0, 0, 0);
        Check.same("more by 0", 2, x.account(4));
        x.evening();
        x.swap(0, 5, 5);
        Check.same("swapped with itself", 3, x.account(4));
        x.evening();
        x.swap(0, 0, 5);
        Check.same("swapped with the same", 4, x.account(4));
        Check.same("the sheet", 11, x.pageOf(-1, 0, 2));
        Check.same("nothing is different", 0, x.placesApart(1, -1));
        Check.same("the sheets are", 1, x.sheetsApart(1, -1));
        x.owe(0, 0, 0);
        Check.same("once alone, there is no copy", 4, x.account(4));
    }

    private static void takenOver() {
        Check.terms("Taking over",
            "A page can be taken over from an evening: it has the sheet then that it had on this evening.");
        EveningLedger x = Look.after("00a1;70b2;e;00-;70-;e");
        x.takeOver(7, 1);
        Check.same("its sheet", x.pageOf(1, 7, 2), x.pageOf(-1, 7, 2));
        Check.same("its entries", "b2 . . . . .", Look.told(x, -1, 7));
        Check.same("the other page stays", x.pageOf(2, 0, 2), x.pageOf(-1, 0, 2));
        Check.terms("Taking over", "That makes no copy.");
        Check.same("copies", 4, x.account(4));
        Check.same("sheets made", 12, x.account(3));
        x.owe(7, 0, 1);
        Check.same("but a change then does", 5, x.account(4));
        Check.same("the evening stays as it was", 2, x.debtAt(1, 7, 0));
        x.evening();
        Check.same("an evening that comes has it", 3, x.debtAt(3, 7, 0));
    }

    private static void sumOfDebts() {
        Check.terms("Debts", "The debt of a person on an evening is the sum of its debts on all pages.");
        EveningLedger x = Look.after("00a1;05a2;30a4;70a8;75a~16;01b99;74j99;e;75-");
        Check.same("then", -1, x.debt(1, 'a'));
        Check.same("now", 15, x.debt(-1, 'a'));
        Check.same("at the beginning", 0, x.debt(0, 'a'));
        Check.same("by the second way then", -1, x.debtAgain(1, 'a'));
        Check.same("by the second way now", 15, x.debtAgain(-1, 'a'));
    }

    private static void owesMore() {
        Check.terms("Debts", "A person owes more than another one if its debt is greater.");
        EveningLedger x = Look.after("00a~999;10j1;20c~1;30d999;40e2;50e~2");
        String order = "" + x.owing(-1, 0) + x.owing(-1, 1) + x.owing(-1, 2) + x.owing(-1, 3) + x.owing(-1, 4);
        Check.same("the greatest debt, not the farthest from 0", "djeca", order);
    }

    private static void reasonsOfPlaces() {
        Check.terms("Refusals", "2, there is an entry at the place: its debt;");
        Check.refuses("write", Look::busy, 2, -999, x -> x.write(7, 5, 'a', 5));
        Check.terms("Refusals", "3, there is none: the place;");
        Check.refuses("owe", Look::busy, 3, 5, x -> x.owe(0, 5, 1));
        Check.refuses("strike, the first place", Look::busy, 3, 0, x -> x.strike(1, 0));
        Check.refuses("swap, the other", Look::busy, 3, 4, x -> x.swap(7, 5, 4));
        Check.terms("Refusals", "4, the debt would be out of range: by how much it would be beyond;");
        Check.refuses("above", Look::busy, 4, 2, x -> x.owe(7, 0, 2));
        Check.refuses("below", Look::busy, 4, 2, x -> x.owe(7, 5, -2));
    }

    private static void reasonsOfEvenings() {
        Check.terms("Refusals", "Something is refused for the first of the reasons that apply, in the order in which"
            + " its method names them, with a detail: 1, there are 12 evenings: this number;");
        Check.refuses("evening", Look::fullOfEvenings, 1, 12, x -> x.evening());
        Check.refuses("swap of two empty places", Look::busy, 3, 3, x -> x.swap(7, 3, 1));
        Check.terms("Refusals", "5, it is the latest evening: it;");
        Check.refuses("forget", Look::fullOfEvenings, 5, 11, x -> x.forget(11));
        Check.refuses("forget that at the beginning", EveningLedger::new, 5, 0, x -> x.forget(0));
    }

    private static void reasonsOfPages() {
        Check.terms("Refusals", "6, the page has this sheet already: the sheet;");
        Check.refuses("takeOver, the first sheet", EveningLedger::new, 6, 0, x -> x.takeOver(0, 0));
        Check.refuses("takeOver, that of now alone", Look::busy, 6, 14, x -> x.takeOver(4, -1));
        Check.terms("Refusals", "7, the page is full: how many entries it has.");
        Check.refuses("add", () -> Look.filled('a', 1), 7, 6, x -> x.add(7, 'j', 1));
    }
}
