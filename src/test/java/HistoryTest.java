/** Promises 34 to 36, sentence by sentence. */
final class HistoryTest {
    public static void main(String[] arguments) {
        promise34Undoes();
        promise34EachChange();
        promise34AtMostSix();
        promise34RoundAndRound();
        promise34WhatStays();
        promise34None();
        promise35Saves();
        promise35IsReplaced();
        promise35WhatStays();
        promise36Restores();
        promise36StaysSaved();
        promise36TheHistory();
        promise36NothingSaved();
        Check.finish(34, 36);
    }

    private static void promise34Undoes() {
        Check.promise(34, "Undoes the latest change that is remembered.");
        EveningLedger x = new EveningLedger();
        x.add(0, 'a', 1);
        x.add(0, 'b', 2);
        Check.promise(34, "Returns the number of changes that are still remembered.");
        Check.same("one is left", 1, x.undo());
        Check.same("the page", "a1 . . . . .", Look.told(x, -1, 0));
        Check.same("none is left", 0, x.undo());
        Check.same("the page", ". . . . . .", Look.told(x, -1, 0));
        Check.same("the sheet of the beginning", 0, x.pageOf(-1, 0, 2));
        Check.same("sheets made", 8, x.account(3));
    }

    private static void promise34EachChange() {
        Check.promise(34, "Undoes the latest change that is remembered.");
        undone("write", x -> x.write(1, 1, 'a', 1));
        undone("add", x -> x.add(0, 'a', 1));
        undone("owe", x -> x.owe(0, 0, 1));
        undone("owe by 0", x -> x.owe(0, 1, 0));
        undone("owe that strikes out", x -> x.owe(0, 0, -5));
        undone("strike", x -> x.strike(0, 1));
        undone("swap", x -> x.swap(0, 0, 1));
        undone("swap with itself", x -> x.swap(0, 0, 0));
        undone("evening", EveningLedger::evening);
        undone("takeOver", x -> x.takeOver(0, 0));
        undone("forget", x -> x.forget(0));
        undone("forget between two", x -> x.forget(1));
        undone("read", x -> {
            Look.input(x, "00-;e;f0;f1;75j1;t0@2");
            return x.read();
        });
    }

    private static void undone(String what, Check.Use change) {
        EveningLedger x = Look.after("0+a5;0+b6;e;0+c7;e;02-");
        String before = Look.accounts(x) + Look.days(x);
        change.of(x);
        Check.same(what + " is remembered", 2, x.account(11));
        Check.same(what + " is undone", 1, x.undo());
        Check.same("all after " + what, before, Look.accounts(x) + Look.days(x));
    }

    private static void promise34AtMostSix() {
        Check.promise(34, "Returns the number of changes that are still remembered.");
        EveningLedger x = new EveningLedger();
        x.write(0, 0, 'a', 1);
        for (int change = 2; change <= 9; change++) {
            x.owe(0, 0, 1);
            Check.same("remembered", Math.min(change, 6), x.account(11));
        }
        for (int left = 5; left >= 0; left--) {
            Check.same("left", left, x.undo());
            Check.same("the debt", left + 3, x.debtAt(-1, 0, 0));
        }
        Check.fails("the oldest ones are forgotten", Check.ELEMENT, x::undo);
        Check.same("the debt stays", 3, x.debtAt(-1, 0, 0));
    }

    /** Six of them, and one to five undone, again and again. */
    private static void promise34RoundAndRound() {
        Check.promise(34, "Undoes the latest change that is remembered.");
        EveningLedger x = Look.after("00a1");
        for (int round = 1; round <= 5; round++) {
            for (int change = 1; change <= 6; change++) {
                x.owe(0, 0, 1);
            }
            int debt = x.debtAt(-1, 0, 0);
            for (int undone = 1; undone <= round; undone++) {
                Check.same("left", 6 - undone, x.undo());
                Check.same("the debt", debt - undone, x.debtAt(-1, 0, 0));
            }
        }
        Check.same("the last one of the latest six", 0, x.undo());
        Check.fails("no more", Check.ELEMENT, x::undo);
    }

    private static void promise34WhatStays() {
        Check.promise(34, "Undoes the latest change that is remembered.");
        EveningLedger x = new EveningLedger();
        x.add(0, 'a', 1);
        x.save();
        x.add(0, 'b', 2);
        x.tell(-1, 0);
        Check.answer(() -> x.strike(0, 5));
        Look.read(x, "00a!");
        Look.input(x, "e;e");
        Check.same("left", 1, x.undo());
        Check.same("the line stays", "a1 b2 . . . .", Look.line(x));
        Check.same("the reason stays", "3, 5", x.reason(false) + ", " + x.reason(true));
        Check.same("the error position stays", 3, x.errorPosition());
        Check.same("the input stays", 3, x.account(10));
        Check.same("what is read then", 2, x.read());
        x.undo();
        x.undo();
        Check.same("nothing is written", 0, x.account(7));
        x.restore();
        Check.same("what was saved stays", "a1 . . . . .", Look.told(x, -1, 0));
    }

    private static void promise34None() {
        Check.promise(34, "Throws `NoSuchElementException` if no change is remembered");
        Check.leaves("at first", EveningLedger::new, Check.ELEMENT, EveningLedger::undo);
        Check.leaves("after restore", HistoryTest::restored, Check.ELEMENT, EveningLedger::undo);
        Check.leaves("after all six", HistoryTest::undoneToTheEnd, Check.ELEMENT, EveningLedger::undo);
        EveningLedger x = undoneToTheEnd();
        x.owe(0, 0, 100);
        Check.same("a change behind them", 0, x.undo());
        Check.same("the debt", 3, x.debtAt(-1, 0, 0));
        EveningLedger y = new EveningLedger();
        Check.answer(() -> y.strike(0, 0));
        y.tell(0, 0);
        y.save();
        Check.fails("after a refusal, a line and a saving", Check.ELEMENT, y::undo);
    }

    private static EveningLedger restored() {
        EveningLedger x = Look.busy();
        x.restore();
        return x;
    }

    private static EveningLedger undoneToTheEnd() {
        EveningLedger x = Look.after("00a1");
        for (int change = 1; change <= 8; change++) {
            x.owe(0, 0, 1);
        }
        for (int change = 1; change <= 6; change++) {
            x.undo();
        }
        return x;
    }

    private static void promise35Saves() {
        Check.promise(35, "Returns how many evenings are kept.");
        Check.same("the least", 1, new EveningLedger().save());
        EveningLedger x = Look.fullOfEvenings();
        Check.same("the most", 12, x.save());
        x.forget(3);
        Check.same("one less", 11, x.save());
        Check.promise(35, "Saves all that the history remembers for a change.");
        EveningLedger y = Look.after("0+a5;e;0+b6;e;t0@1;00-;f1");
        String saved = Look.accounts(y) + Look.days(y);
        y.save();
        Look.read(y, "e;7+c1;t0@0;f0;f2;7+c1;70-");
        y.add(0, 'a', 1);
        y.restore();
        Check.same("all of it", saved, Look.accounts(y) + Look.days(y));
        EveningLedger z = Look.after("00a1");
        z.save();
        z.restore();
        Check.same("numbers of sheets go on from what was saved", 9, z.account(3));
        z.evening();
        z.owe(0, 0, 1);
        Check.same("the next number", 9, z.pageOf(-1, 0, 2));
    }

    private static void promise35IsReplaced() {
        Check.promise(35, "What was saved before is replaced.");
        EveningLedger x = new EveningLedger();
        x.save();
        x.evening();
        x.add(0, 'a', 1);
        x.save();
        x.add(0, 'a', 1);
        Check.same("by the second one", 2, x.restore());
        Check.same("its entries", 1, x.account(5));
        x.forget(0);
        x.save();
        x.evening();
        Check.same("by the third one", 1, x.restore());
    }

    private static void promise35WhatStays() {
        Check.promise(35, "Saves all that the history remembers for a change.");
        EveningLedger x = Look.after("00a1");
        x.tell(-1, 0);
        Look.input(x, "e");
        Check.same("kept", 1, x.save());
        Check.same("saving is no change", 1, x.account(11));
        Check.same("the line stays", "a1 . . . . .", Look.line(x));
        Check.same("the input stays", 1, x.account(10));
        Check.same("the change can be undone", 0, x.undo());
        Check.same("as it was ahead of it", 0, x.account(5));
        x.restore();
        Check.same("as it was saved", 1, x.account(5));
        Check.same("the input is not saved", 1, x.account(10));
    }

    private static void promise36Restores() {
        Check.promise(36, "Restores what was saved.");
        EveningLedger x = Look.after("0+a5;e;0+b6;e;t0@1");
        x.save();
        String saved = Look.accounts(x) + Look.days(x);
        x.forget(1);
        x.add(3, 'a', 1);
        x.tell(-1, 3);
        Check.answer(() -> x.strike(0, 5));
        Look.read(x, "00a!");
        Look.input(x, "e");
        Check.promise(36, "Returns how many evenings are kept.");
        Check.same("kept", 3, x.restore());
        Check.same("all that was saved", saved, Look.accounts(x) + Look.days(x));
        Check.same("the line stays", "a1 . . . . .", Look.line(x));
        Check.same("the reason stays", "3, 5", x.reason(false) + ", " + x.reason(true));
        Check.same("the error position stays", 3, x.errorPosition());
        Check.same("the input stays", 1, x.account(10));
        EveningLedger y = Look.fullOfEvenings();
        y.save();
        Check.same("the most", 12, y.restore());
        EveningLedger z = new EveningLedger();
        z.save();
        z.evening();
        Check.same("the least", 1, z.restore());
    }

    private static void promise36StaysSaved() {
        Check.promise(36, "It stays saved.");
        EveningLedger x = Look.after("0+a5;e");
        x.save();
        for (int time = 1; time <= 3; time++) {
            x.owe(0, 0, time);
            x.evening();
            x.add(1, 'b', 1);
            Check.same("kept", 2, x.restore());
            Check.same("the debt", 5, x.debtAt(-1, 0, 0));
            Check.same("the entries", 1, x.account(5));
        }
        Check.same("twice in a row", 2, x.restore());
        x.owe(0, 0, 1);
        x.undo();
        Check.same("after undo", 2, x.restore());
    }

    private static void promise36TheHistory() {
        Check.terms("History", "restore forgets all of them.");
        EveningLedger x = Look.busy();
        Check.same("changes ahead", 6, x.account(11));
        x.restore();
        Check.same("changes then", 0, x.account(11));
        Check.fails("undo", Check.ELEMENT, x::undo);
        for (int change = 1; change <= 6; change++) {
            x.add(5, 'b', change);
            Check.same("a change then", change, x.account(11));
        }
        for (int left = 5; left >= 0; left--) {
            Check.same("undone", left, x.undo());
        }
        Check.fails("what was ahead of restore is forgotten", Check.ELEMENT, x::undo);
    }

    private static void promise36NothingSaved() {
        Check.promise(36, "Throws `IllegalStateException` if nothing was saved");
        Check.leaves("at first", EveningLedger::new, Check.STATE, EveningLedger::restore);
        Check.leaves("after changes", () -> Look.after("00a1;e", "00-"), Check.STATE, EveningLedger::restore);
        EveningLedger x = Look.after("00a1");
        Check.fails("nothing is saved by a change", Check.STATE, x::restore);
        x.save();
        x.undo();
        Check.same("undo does not take the saving back", 1, x.restore());
    }
}
