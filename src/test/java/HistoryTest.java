/** Promises 34 to 36. */
final class HistoryTest {
    public static void main(String[] arguments) {
        promise34Undo();
        promise34UndoEachChange();
        promise34UndoAtMostSix();
        promise34WhatUndoLeaves();
        promise34SheetNumbersAreUsedAgain();
        promise35Save();
        promise36Restore();
        promise36RestoreForgetsTheHistory();
        Check.finish();
    }

    private static void promise34Undo() {
        EveningLedger x = new EveningLedger();
        Check.fails("at first", Check.ELEMENT, x::undo);
        x.add(0, 'a', 1);
        x.add(0, 'b', 2);
        Check.same("one is left", 1, x.undo());
        Check.same("the page", "a1 . . . . .", Look.told(x, -1, 0));
        Check.same("none is left", 0, x.undo());
        Check.same("the page", ". . . . . .", Look.told(x, -1, 0));
        Check.fails("no more", Check.ELEMENT, x::undo);
    }

    private static void promise34UndoEachChange() {
        undone("write", x -> x.write(1, 1, 'a', 1));
        undone("add", x -> x.add(0, 'a', 1));
        undone("owe", x -> x.owe(0, 0, 1));
        undone("owe by 0", x -> x.owe(0, 1, 0));
        undone("owe that strikes out", x -> x.owe(0, 0, -5));
        undone("strike", x -> x.strike(0, 1));
        undone("swap", x -> x.swap(0, 0, 1));
        undone("swap with itself", x -> x.swap(0, 0, 0));
        undone("evening", EveningLedger::evening);
        undone("takeOver", x -> x.takeOver(0, 0));
        undone("forget", x -> x.forget(0));
    }

    private interface Change {
        int make(EveningLedger x);
    }

    private static void undone(String what, Change change) {
        EveningLedger x = Look.after("0+a5;0+b6;e;0+c7;e");
        String before = Look.at(x);
        change.make(x);
        Check.same(what + " is remembered", 2, x.account(11));
        Check.same(what + " is undone", 1, x.undo());
        Check.same("the state after " + what, before, Look.at(x));
    }

    private static void promise34UndoAtMostSix() {
        EveningLedger x = new EveningLedger();
        x.write(0, 0, 'a', 1);
        for (int change = 1; change <= 8; change++) {
            x.owe(0, 0, 1);
            Check.same("remembered", Math.min(change + 1, 6), x.account(11));
        }
        for (int left = 5; left >= 0; left--) {
            Check.same("left", left, x.undo());
            Check.same("the debt", left + 3, x.debtAt(-1, 0, 0));
        }
        Check.fails("the oldest ones are forgotten", Check.ELEMENT, x::undo);
        x.owe(0, 0, 100);
        Check.same("a change behind that", 0, x.undo());
        Check.same("the debt", 3, x.debtAt(-1, 0, 0));
    }

    private static void promise34WhatUndoLeaves() {
        EveningLedger x = new EveningLedger();
        x.add(0, 'a', 1);
        Look.input(x, "e;e");
        x.tell(-1, 0);
        x.undo();
        Check.same("the input stays", 3, x.account(10));
        Check.same("the line stays", "a1 . . . . .", Look.line(x));
        Check.same("what is read then", 2, x.read());
        x.save();
        x.undo();
        Check.same("what was saved stays", 3, x.restore());
    }

    private static void promise34SheetNumbersAreUsedAgain() {
        EveningLedger x = new EveningLedger();
        x.add(0, 'a', 1);
        x.undo();
        Check.same("sheets made", 8, x.account(3));
        x.add(5, 'a', 1);
        Check.same("the number is used again", 8, x.pageOf(-1, 5, 2));
        Check.same("page 0 has its own", 0, x.pageOf(-1, 0, 2));
    }

    private static void promise35Save() {
        EveningLedger x = new EveningLedger();
        Check.same("kept", 1, x.save());
        x.evening();
        Check.same("kept", 2, x.save());
        Check.same("no change", 1, x.account(11));
        x.add(0, 'a', 1);
        Check.same("in place of what was saved before", 2, x.restore());
        Check.same("the entries", 0, x.account(5));
    }

    private static void promise36Restore() {
        EveningLedger x = Look.after("0+a5;e;0+b6;e;t0@1");
        Check.fails("nothing saved", Check.STATE, x::restore);
        x.save();
        String before = withoutAccounts(Look.at(x));
        x.forget(1);
        x.add(3, 'a', 1);
        Look.input(x, "e");
        Check.same("kept", 3, x.restore());
        Check.same("the state", before, withoutAccounts(Look.at(x)));
        Check.same("the input stays", 1, x.account(10));
        x.forget(0);
        Check.same("it stays saved", 3, x.restore());
    }

    private static String withoutAccounts(String look) {
        return look.substring(look.indexOf('\n'));
    }

    private static void promise36RestoreForgetsTheHistory() {
        EveningLedger x = new EveningLedger();
        x.add(0, 'a', 1);
        x.save();
        x.add(0, 'a', 1);
        x.restore();
        Check.same("changes", 0, x.account(11));
        Check.fails("undo", Check.ELEMENT, x::undo);
        x.add(0, 'b', 1);
        Check.same("the number of the sheet is that before", 9, x.account(3));
        Check.same("a change then", 0, x.undo());
        Check.same("written", 1, x.account(7));
    }
}
