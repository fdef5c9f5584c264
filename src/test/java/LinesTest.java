/** Promises 24 to 29, sentence by sentence. */
final class LinesTest {
    private static final String NO_EVENING = "Throws `IndexOutOfBoundsException` if there is no such evening";
    private static final String LENGTH = "Returns the length of the line.";
    private static final String ACCOUNTS = "`account`: 0 for the latest evening, 1 for the kept ones, 2 for the sheets"
        + " that are not gone, 3 for the sheets made so far, 4 for the copies so far, 5 for the entries now, 6 for the"
        + " sum of all debts now, 7 for the entries written or added so far, 8 for those struck out so far, 9 for the"
        + " pages taken over so far, 10 for the characters of the input, 11 for the changes that can be undone";

    public static void main(String[] arguments) {
        promise24Tells();
        promise24Lengths();
        promise24NoSuchThing();
        promise25Shows();
        promise25NowIsBehind();
        promise25LongNumbers();
        promise25NoSuchThing();
        promise26Character();
        promise26NoSuchThing();
        promise27MeanDebt();
        promise27NoSuchThing();
        promise28AloneShare();
        promise28Shares();
        promise29EveningsAndSheets();
        promise29EntriesAndSums();
        promise29SoFar();
        promise29InputAndChanges();
        promise29NoSuchThing();
        Check.finish(24, 29);
    }

    private static void promise24Tells() {
        Check.promise(24, "Writes a page as it was on an evening, in place of the line before: for each place \".\" if"
            + " it is empty, or the person and the debt;");
        EveningLedger x = Look.after("60a1;61b~12;63c999;65j~999;e;60-;70h5");
        Check.same("then", "a1 b-12 . c999 . j-999", Look.told(x, 1, 6));
        Check.same("now", ". b-12 . c999 . j-999", Look.told(x, -1, 6));
        Check.same("at the beginning", ". . . . . .", Look.told(x, 0, 6));
        Check.same("the last page", "h5 . . . . .", Look.told(x, -1, 7));
        Check.same("the first page", ". . . . . .", Look.told(x, -1, 0));
        Check.promise(24, "with a blank between two.");
        EveningLedger y = new EveningLedger();
        int[] debts = {-999, -10, -1, 1, 10, 999};
        for (int place = 0; place < 6; place++) {
            y.write(0, place, (char) ('e' + place), debts[place]);
        }
        Check.same("a full page", "e-999 f-10 g-1 h1 i10 j999", Look.told(y, -1, 0));
    }

    private static void promise24Lengths() {
        Check.promise(24, LENGTH);
        EveningLedger x = new EveningLedger();
        Check.same("of an empty page", 11, x.tell(0, 0));
        Look.fill(x, 0, 'a', -999);
        Check.same("the longest one", 35, x.tell(-1, 0));
        Check.same("its last character", '9', x.character(34));
        Check.fails("behind it", Check.ELEMENT, () -> x.character(35));
        Check.same("a shorter one in its place", 11, x.tell(0, 0));
        Check.fails("nothing is left of the longer one", Check.ELEMENT, () -> x.character(11));
        Check.onlyAnswers("but for the line", Look::busy, y -> y.tell(2, 7), "line", "j999 . . . . .");
    }

    private static void promise24NoSuchThing() {
        Check.promise(24, NO_EVENING);
        Edges.evenings((x, evening) -> x.tell(evening, 0));
        Check.promise(24, "Throws `IllegalArgumentException` if there is no such page");
        Edges.pages(Check.ARGUMENT, (x, page) -> x.tell(2, page));
        Check.order();
        Check.leaves("evening and page", Look::busy, Check.INDEX, x -> x.tell(1, 8));
    }

    private static void promise25Shows() {
        Check.promise(25, "Writes the sheets of an evening, in place of the line before: for each page the number of"
            + " its sheet, and \"!\" behind it if no kept evening ahead has this sheet for it;");
        EveningLedger x = Look.after("0+a1;3+a1;e;0+a1;7+a1;e;t0@1");
        Check.same("at the beginning", "0!,1!,2!,3!,4!,5!,6!,7!", Look.shown(x, 0));
        Check.same("then", "8!,1,2,9!,4,5,6,7", Look.shown(x, 1));
        Check.same("the latest one", "10!,1,2,9,4,5,6,11!", Look.shown(x, 2));
        x.forget(0);
        Check.same("the earliest one that is kept", "8!,1!,2!,9!,4!,5!,6!,7!", Look.shown(x, 1));
        Check.same("the next one", "10!,1,2,9,4,5,6,11!", Look.shown(x, 2));
        Check.promise(25, "with \",\" between two.");
        Check.same("a new object", "0!,1!,2!,3!,4!,5!,6!,7!", Look.shown(new EveningLedger(), 0));
        Check.promise(25, LENGTH);
        Check.same("the longest of a new object", 23, new EveningLedger().show(0));
        Check.onlyAnswers("but for the line", Look::busy, y -> y.show(-1), "line", "12!,1,2,3,14!,5,6,11!");
    }

    private static void promise25NowIsBehind() {
        Check.promise(25, "Now is behind all evenings.");
        EveningLedger x = Look.after("0+a1;3+a1;e;0+a1;7+a1;e;t0@1");
        Check.same("now, with a sheet of evenings ahead", "8,1,2,9,4,5,6,11", Look.shown(x, -1));
        x.forget(1);
        Check.same("what now has alone then", "8!,1,2,9,4,5,6,11", Look.shown(x, -1));
        x.add(1, 'a', 1);
        Check.same("a copy", "8!,12!,2,9,4,5,6,11", Look.shown(x, -1));
        x.evening();
        Check.same("the evening has it then", "8,12,2,9,4,5,6,11", Look.shown(x, -1));
        Check.same("the evening itself", "8!,12!,2,9,4,5,6,11", Look.shown(x, 3));
        Check.same("now of a new object", "0,1,2,3,4,5,6,7", Look.shown(new EveningLedger(), -1));
    }

    private static void promise25LongNumbers() {
        Check.promise(25, LENGTH);
        EveningLedger x = Look.after("00a1");
        for (int sheet = 9; sheet < 105; sheet++) {
            x.evening();
            x.owe(0, 0, 1);
            x.forget(x.keptAt(0));
        }
        Check.same("a number of three digits", "104!,1,2,3,4,5,6,7", Look.shown(x, -1));
        Check.same("that of the latest evening", "103!,1!,2!,3!,4!,5!,6!,7!", Look.shown(x, 96));
        Check.same("sheets that are left", 9, x.account(2));
        Check.same("sheets made", 105, x.account(3));
        EveningLedger y = Look.after("0+a1;1+a1;2+a1;3+a1;4+a1;5+a1;6+a1;7+a1");
        for (int sheet = 16; sheet < 112; sheet++) {
            if (sheet % 8 == 0) {
                y.evening();
                y.forget(y.keptAt(0));
            }
            y.owe(sheet % 8, 0, 1);
        }
        Check.same("a long line", "104!,105!,106!,107!,108!,109!,110!,111!", Look.shown(y, -1));
        Check.same("its length", 39, y.show(-1));
        Check.fails("behind its last character", Check.ELEMENT, () -> y.character(39));
    }

    private static void promise25NoSuchThing() {
        Check.promise(25, NO_EVENING);
        Edges.evenings((x, evening) -> x.show(evening));
    }

    private static void promise26Character() {
        Check.promise(26, "Returns a character of the line, which is empty at first.");
        EveningLedger x = new EveningLedger();
        Check.fails("at first", Check.ELEMENT, () -> x.character(0));
        x.show(-1);
        Check.promise(26, "`index`: the index, from 0");
        Check.same("the first one", '0', x.character(0));
        Check.same("the second one", ',', x.character(1));
        Check.promise(26, "Returns the character.");
        Check.same("the last one", '7', x.character(14));
        x.tell(0, 0);
        Check.same("in place of the line before", '.', x.character(0));
        Check.same("a blank", ' ', x.character(1));
        Check.same("the last one", '.', x.character(10));
    }

    private static void promise26NoSuchThing() {
        Check.promise(26, "Throws `NoSuchElementException` if there is none");
        Edges.right("index", Check.ELEMENT, (x, index) -> x.character(index), 0, 13);
        Edges.wrong("index", Check.ELEMENT, (x, index) -> x.character(index),
            Integer.MIN_VALUE, -1, 14, 1000, Integer.MAX_VALUE);
        Edges.wrong("index of no line", Check.ELEMENT, (x, index) -> new EveningLedger().character(index), -1, 0, 1);
    }

    private static void promise27MeanDebt() {
        Check.promise(27, "Returns the mean debt of the entries on an evening: the sum divided by their number, both"
            + " converted to double.");
        EveningLedger x = Look.after("00a1;75b~2;30c5;e;31a7;32b~11;e;33a1");
        Check.same("then", 4.0 / 3.0, x.meanDebt(1));
        Check.same("that comes to 0", 0.0, x.meanDebt(2));
        Check.same("now", 1.0 / 6.0, x.meanDebt(-1));
        Check.promise(27, "Returns the mean.");
        EveningLedger y = Look.after("00a~1;01a~2;02a~2");
        Check.same("below 0, not rounded", -5.0 / 3.0, y.meanDebt(-1));
        Check.same("of one", -1.0, Look.after("75j~1").meanDebt(-1));
        Check.same("the greatest", 999.0, Look.filled('a', 999).meanDebt(-1));
        Check.same("the least", -999.0, Look.filled('j', -999).meanDebt(-1));
        EveningLedger z = Look.filled('a', 1);
        z.owe(7, 5, 1);
        Check.same("of 48", 49.0 / 48.0, z.meanDebt(-1));
    }

    private static void promise27NoSuchThing() {
        Check.promise(27, NO_EVENING);
        Edges.evenings((x, evening) -> x.meanDebt(evening));
        Check.promise(27, "Throws `ArithmeticException` if there are none");
        Check.leaves("at the beginning", Look::busy, Check.ARITHMETIC, x -> x.meanDebt(0));
        Check.leaves("now, on a new object", EveningLedger::new, Check.ARITHMETIC, x -> x.meanDebt(-1));
        Check.leaves("now, all struck out", () -> Look.after("00a1;e;00-"), Check.ARITHMETIC, x -> x.meanDebt(-1));
        Check.same("two that come to 0", 0.0, Look.after("00a1;01a~1").meanDebt(-1));
    }

    private static void promise28AloneShare() {
        Check.promise(28, "Returns the share of the pages of all kept evenings and of now that have a sheet for"
            + " themselves alone, both numbers converted to float.");
        EveningLedger x = new EveningLedger();
        Check.same("none", 0f, x.aloneShare());
        x.add(0, 'a', 1);
        Check.same("the copy and what it was made of", 2f / 16f, x.aloneShare());
        x.evening();
        Check.same("the evening has the sheet of now", 1f / 24f, x.aloneShare());
        x.add(0, 'a', 1);
        x.add(5, 'a', 1);
        Check.same("three on page 0, one on page 5", 4f / 24f, x.aloneShare());
        x.takeOver(0, 0);
        Check.same("now has that of the beginning", 2f / 24f, x.aloneShare());
        x.forget(0);
        Check.same("then now has it alone, and the evening two", 4f / 16f, x.aloneShare());
    }

    private static void promise28Shares() {
        Check.promise(28, "Returns the share.");
        EveningLedger x = Look.after("0+a1;1+a1;2+a1;3+a1;4+a1;5+a1;6+a1;7+a1");
        Check.same("all", 1f, x.aloneShare());
        x.evening();
        Check.same("those of the beginning", 8f / 24f, x.aloneShare());
        x.forget(0);
        Check.same("none", 0f, x.aloneShare());
        EveningLedger y = Look.fullOfEvenings();
        Check.same("none of 12 evenings and now", 0f, y.aloneShare());
        y.add(7, 'a', 1);
        Check.same("that of now", 1f / 104f, y.aloneShare());
    }

    private static void promise29EveningsAndSheets() {
        Check.promise(29, ACCOUNTS);
        EveningLedger x = Look.fullOfEvenings();
        Check.same("the latest one", 11, x.account(0));
        Check.same("kept, at the most", 12, x.account(1));
        x.forget(0);
        x.evening();
        Check.same("the latest one", 12, x.account(0));
        x.forget(11);
        Check.same("the latest one stays", 12, x.account(0));
        Check.same("kept", 11, x.account(1));
        x.add(0, 'a', 1);
        Check.same("sheets that are not gone", 9, x.account(2));
        Check.same("sheets made", 9, x.account(3));
        Check.same("copies", 1, x.account(4));
        x.takeOver(0, 12);
        Check.same("one is gone", 8, x.account(2));
        Check.same("sheets made so far", 9, x.account(3));
        Check.same("copies so far", 1, x.account(4));
        x.add(0, 'a', 1);
        Check.same("the next number", 10, x.account(3));
        Check.same("the next copy", 2, x.account(4));
        x.add(0, 'a', 1);
        Check.same("no copy any more", 2, x.account(4));
    }

    private static void promise29EntriesAndSums() {
        Check.promise(29, ACCOUNTS);
        EveningLedger x = Look.filled('a', 999);
        Check.same("entries, at the most", 48, x.account(5));
        Check.same("the greatest sum", 48 * 999, x.account(6));
        x.evening();
        x.strike(7, 5);
        Check.same("entries now", 47, x.account(5));
        Check.same("the sum now", 47 * 999, x.account(6));
        EveningLedger y = Look.filled('j', -999);
        Check.same("the least sum", -48 * 999, y.account(6));
        y.takeOver(0, 0);
        Check.same("entries without a page", 42, y.account(5));
        Check.same("the sum without a page", -42 * 999, y.account(6));
    }

    private static void promise29SoFar() {
        Check.promise(29, ACCOUNTS);
        EveningLedger x = new EveningLedger();
        x.write(0, 0, 'a', 1);
        x.add(0, 'a', 2);
        x.owe(0, 0, 5);
        x.swap(0, 0, 1);
        Check.same("written or added", 2, x.account(7));
        Check.same("struck out", 0, x.account(8));
        x.strike(0, 0);
        x.owe(0, 1, -6);
        Check.same("struck out, also by a debt of 0", 2, x.account(8));
        x.takeOver(0, 0);
        Check.same("taken over", 1, x.account(9));
        Look.read(x, "00a1;0+b1;00-;e;01-;t0@1");
        Check.same("written or added by a text, too", 4, x.account(7));
        Check.same("struck out by a text, too", 4, x.account(8));
        Check.same("taken over by a text, too", 2, x.account(9));
        x.forget(0);
        Check.same("forgetting takes nothing back", "4 4 2", x.account(7) + " " + x.account(8) + " " + x.account(9));
        x.undo();
        x.undo();
        Check.same("undone, there are less", "2 2 1", x.account(7) + " " + x.account(8) + " " + x.account(9));
    }

    private static void promise29InputAndChanges() {
        Check.promise(29, ACCOUNTS);
        EveningLedger x = new EveningLedger();
        for (int length = 1; length <= 60; length++) {
            x.append('e');
            Check.same("characters of the input", length, x.account(10));
        }
        Check.fails("a text that is malformed", Check.ARGUMENT, x::read);
        Check.same("no characters", 0, x.account(10));
        for (int change = 1; change <= 6; change++) {
            x.add(0, 'a', 1);
            Check.same("changes", change, x.account(11));
        }
        x.add(1, 'a', 1);
        Check.same("at most 6", 6, x.account(11));
        x.undo();
        Check.same("5 then", 5, x.account(11));
        x.save();
        Check.same("saving is none", 5, x.account(11));
        x.restore();
        Check.same("none after restore", 0, x.account(11));
    }

    private static void promise29NoSuchThing() {
        Check.promise(29, "Returns an account.");
        EveningLedger x = Look.after("0+a9;0+b~4;e;00-;t0@1;1+c1", "f0");
        x.add(1, 'a', 7);
        x.owe(1, 0, -1);
        Look.input(x, "e;e");
        int[] due = {1, 1, 9, 11, 3, 3, 12, 4, 2, 1, 3, 4};
        Check.promise(29, "Returns the account.");
        for (int account = 0; account < due.length; account++) {
            Check.same("account " + account, due[account], x.account(account));
        }
        Check.promise(29, "Throws `IllegalArgumentException` if account is not 0 to 11");
        Edges.right("account", Check.ARGUMENT, (y, account) -> y.account(account), 0, 11);
        Edges.wrong("account", Check.ARGUMENT, (y, account) -> y.account(account),
            Integer.MIN_VALUE, -1, 12, Integer.MAX_VALUE);
    }
}
