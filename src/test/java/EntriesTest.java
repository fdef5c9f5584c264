/** Promises 1 to 9. */
final class EntriesTest {
    public static void main(String[] arguments) {
        promise1NewObject();
        promise2Write();
        promise2WriteWrongly();
        promise3Add();
        promise4Owe();
        promise4OweWrongly();
        promise5Strike();
        promise6Swap();
        promise7PersonAt();
        promise8DebtAt();
        promise9PageOf();
        sheetsAreCopiedWhenShared();
        nowIsChangedBehindForgottenEvenings();
        Check.finish();
    }

    private static void promise1NewObject() {
        EveningLedger x = new EveningLedger();
        for (int page = 0; page < 8; page++) {
            for (int evening = -1; evening <= 0; evening++) {
                Check.same("entries of a new page", 0, x.pageOf(evening, page, 0));
                Check.same("sheet of a new page", page, x.pageOf(evening, page, 2));
                Check.same("a new page", ". . . . . .", Look.told(x, evening, page));
            }
        }
        int[] due = {0, 1, 8, 8, 0, 0, 0, 0, 0, 0, 0, 0};
        for (int account = 0; account < due.length; account++) {
            Check.same("account " + account + " of a new object", due[account], x.account(account));
        }
    }

    private static void promise2Write() {
        EveningLedger x = new EveningLedger();
        Check.same("the first entry", 1, x.write(7, 5, 'j', 999));
        Check.same("an entry ahead of it", 2, x.write(7, 0, 'a', -999));
        Check.same("the same person again", 3, x.write(7, 1, 'a', 1));
        Check.same("on another page", 1, x.write(0, 0, 'e', -1));
        Check.same("the page", "a-999 a1 . . . j999", Look.told(x, -1, 7));
        Check.same("entries written", 4, x.account(7));
        Check.same("changes", 4, x.account(11));
        Check.same("the evening stays as it was", 0, x.debtAt(0, 7, 5));
    }

    private static void promise2WriteWrongly() {
        EveningLedger x = new EveningLedger();
        x.write(3, 2, 'c', -42);
        Check.failsCleanly("page -1", x, Check.INDEX, () -> x.write(-1, 0, 'a', 1));
        Check.failsCleanly("page 8, all wrong", x, Check.INDEX, () -> x.write(8, 0, 'z', 0));
        Check.failsCleanly("place -1", x, Check.INDEX, () -> x.write(0, -1, 'a', 1));
        EveningLedger y = new EveningLedger();
        y.write(3, 2, 'c', -42);
        Check.failsCleanly("place 6", y, Check.INDEX, () -> y.write(0, 6, 'k', 1000));
        Check.fails("person k", Check.ARGUMENT, () -> y.write(3, 2, 'k', 1));
        Check.fails("person A", Check.ARGUMENT, () -> y.write(0, 0, 'A', 1));
        Check.fails("person `", Check.ARGUMENT, () -> y.write(0, 0, '`', 1));
        Check.fails("debt 0", Check.ARGUMENT, () -> y.write(3, 2, 'a', 0));
        Check.fails("debt 1000", Check.ARGUMENT, () -> y.write(0, 0, 'a', 1000));
        Check.failsCleanly("debt -1000", y, Check.ARGUMENT, () -> y.write(0, 0, 'a', -1000));
        Check.fails("no reason is kept by that", Check.ELEMENT, () -> y.reason(false));
        Check.refuses("a place that is taken", y, 2, -42, () -> y.write(3, 2, 'a', 1));
    }

    private static void promise3Add() {
        EveningLedger x = new EveningLedger();
        x.write(4, 1, 'b', 5);
        Check.same("the first empty place", 0, x.add(4, 'a', 1));
        Check.same("the next one", 2, x.add(4, 'a', -1));
        Check.same("the next one", 3, x.add(4, 'j', 999));
        x.strike(4, 1);
        Check.same("a gap", 1, x.add(4, 'c', -999));
        Check.same("place 4", 4, x.add(4, 'c', 2));
        Check.same("place 5", 5, x.add(4, 'c', 3));
        Check.same("written and added", 7, x.account(7));
        Check.refuses("a full page", x, 7, 6, () -> x.add(4, 'a', 1));
        Check.fails("page 8 ahead of the person", Check.INDEX, () -> x.add(8, 'k', 0));
        Check.fails("page -1", Check.INDEX, () -> x.add(-1, 'a', 1));
        Check.fails("person k ahead of the full page", Check.ARGUMENT, () -> x.add(4, 'k', 1));
        Check.fails("debt 0", Check.ARGUMENT, () -> x.add(0, 'a', 0));
        Check.fails("debt 1000", Check.ARGUMENT, () -> x.add(0, 'a', 1000));
        Check.fails("debt -1000", Check.ARGUMENT, () -> x.add(0, 'a', -1000));
        Check.same("nothing was added by that", 7, x.account(7));
    }

    private static void promise4Owe() {
        EveningLedger x = new EveningLedger();
        x.write(0, 0, 'd', 500);
        Check.same("more", 999, x.owe(0, 0, 499));
        Check.same("less", 0, x.owe(0, 0, -999));
        Check.same("it is struck out", 1, x.account(8));
        Check.same("it is gone", 0, x.account(5));
        x.write(0, 0, 'd', -1);
        Check.same("down to the limit", -999, x.owe(0, 0, -998));
        Check.same("by 0", -999, x.owe(0, 0, 0));
        Check.same("its person stays", 'd', x.personAt(-1, 0, 0));
        x.owe(0, 0, 999);
        Check.same("struck out from below", 2, x.account(8));
        Check.same("nothing is written by that", 2, x.account(7));
        Check.same("6 changes are remembered", 6, x.account(11));
    }

    private static void promise4OweWrongly() {
        EveningLedger x = new EveningLedger();
        x.write(2, 3, 'd', 990);
        x.write(2, 4, 'd', -990);
        Check.fails("page 8", Check.INDEX, () -> x.owe(8, 0, 1000));
        Check.fails("place 6", Check.INDEX, () -> x.owe(0, 6, 1000));
        Check.fails("place -1", Check.INDEX, () -> x.owe(0, -1, 1));
        Check.fails("1000 ahead of the empty place", Check.ARGUMENT, () -> x.owe(0, 0, 1000));
        Check.failsCleanly("-1000", x, Check.ARGUMENT, () -> x.owe(2, 3, -1000));
        Check.refuses("an empty place", x, 3, 5, () -> x.owe(2, 5, 999));
        EveningLedger y = new EveningLedger();
        y.write(2, 3, 'd', 990);
        y.write(2, 4, 'd', -990);
        Check.refuses("1 too much", y, 4, 1, () -> y.owe(2, 3, 10));
        Check.refuses("below", y, 4, 990, () -> y.owe(2, 4, -999));
        Check.same("just not too much", 999, y.owe(2, 3, 9));
        Check.same("just not too little", -999, y.owe(2, 4, -9));
    }

    private static void promise5Strike() {
        EveningLedger x = new EveningLedger();
        x.write(1, 4, 'h', -321);
        Check.fails("page 8", Check.INDEX, () -> x.strike(8, 0));
        Check.fails("page -1", Check.INDEX, () -> x.strike(-1, 0));
        Check.fails("place 6", Check.INDEX, () -> x.strike(0, 6));
        Check.fails("place -1", Check.INDEX, () -> x.strike(0, -1));
        Check.same("an entry", -321, x.strike(1, 4));
        Check.same("struck out", 1, x.account(8));
        Check.same("the page", ". . . . . .", Look.told(x, -1, 1));
        Check.refuses("what is struck out", x, 3, 4, () -> x.strike(1, 4));
    }

    private static void promise6Swap() {
        EveningLedger x = new EveningLedger();
        x.write(5, 0, 'a', 1);
        x.write(5, 5, 'b', -2);
        x.evening();
        Check.same("two entries", 2, x.swap(5, 0, 5));
        Check.same("the page", "b-2 . . . . a1", Look.told(x, -1, 5));
        Check.same("the page then", "a1 . . . . b-2", Look.told(x, 1, 5));
        Check.same("with one copy", 2, x.account(4));
        x.evening();
        Check.same("with itself", 2, x.swap(5, 5, 5));
        Check.same("with a copy all the same", 3, x.account(4));
        Check.same("the page", "b-2 . . . . a1", Look.told(x, -1, 5));
        Check.refuses("the one is empty", x, 3, 1, () -> x.swap(5, 1, 2));
        Check.fails("the other is empty", Check.REFUSED, () -> x.swap(5, 0, 4));
        Check.same("the other", 4, x.reason(true));
        Check.fails("page 8", Check.INDEX, () -> x.swap(8, 0, 0));
        Check.fails("page -1", Check.INDEX, () -> x.swap(-1, 0, 0));
        Check.fails("place 6", Check.INDEX, () -> x.swap(5, 6, 1));
        Check.fails("place -1", Check.INDEX, () -> x.swap(5, -1, 1));
        Check.fails("other 6 ahead of the empty one", Check.INDEX, () -> x.swap(5, 1, 6));
        Check.fails("other -1", Check.INDEX, () -> x.swap(5, 0, -1));
        Check.same("changes", 6, x.account(11));
    }

    private static void promise7PersonAt() {
        EveningLedger x = new EveningLedger();
        x.write(6, 3, 'f', 12);
        x.evening();
        x.strike(6, 3);
        x.write(6, 3, 'g', 12);
        Check.same("then", 'f', x.personAt(1, 6, 3));
        Check.same("now", 'g', x.personAt(-1, 6, 3));
        Check.fails("no entry then", Check.ELEMENT, () -> x.personAt(0, 6, 3));
        Check.fails("no entry now", Check.ELEMENT, () -> x.personAt(-1, 6, 2));
        Check.fails("evening 2 ahead of the page", Check.INDEX, () -> x.personAt(2, 8, 0));
        Check.fails("evening -2", Check.INDEX, () -> x.personAt(-2, 0, 0));
        Check.fails("page 8", Check.ARGUMENT, () -> x.personAt(0, 8, 0));
        Check.fails("page -1", Check.ARGUMENT, () -> x.personAt(0, -1, 0));
        Check.fails("place 6", Check.ARGUMENT, () -> x.personAt(0, 0, 6));
        Check.fails("place -1", Check.ARGUMENT, () -> x.personAt(0, 0, -1));
        x.forget(0);
        Check.fails("a forgotten evening", Check.INDEX, () -> x.personAt(0, 6, 3));
    }

    private static void promise8DebtAt() {
        EveningLedger x = new EveningLedger();
        x.write(6, 3, 'f', -12);
        x.evening();
        x.owe(6, 3, 13);
        Check.same("then", -12, x.debtAt(1, 6, 3));
        Check.same("now", 1, x.debtAt(-1, 6, 3));
        Check.same("without an entry", 0, x.debtAt(0, 6, 3));
        Check.fails("evening 2 ahead of the page", Check.INDEX, () -> x.debtAt(2, 8, 0));
        Check.fails("evening -2", Check.INDEX, () -> x.debtAt(-2, 0, 0));
        Check.fails("page 8", Check.ARGUMENT, () -> x.debtAt(0, 8, 0));
        Check.fails("page -1", Check.ARGUMENT, () -> x.debtAt(0, -1, 0));
        Check.fails("place 6", Check.ARGUMENT, () -> x.debtAt(0, 0, 6));
        Check.fails("place -1", Check.ARGUMENT, () -> x.debtAt(0, 0, -1));
        x.forget(0);
        Check.fails("a forgotten evening", Check.INDEX, () -> x.debtAt(0, 6, 3));
    }

    private static void promise9PageOf() {
        EveningLedger x = new EveningLedger();
        x.write(2, 0, 'a', 10);
        x.write(2, 2, 'j', -30);
        x.write(2, 5, 'a', 5);
        x.evening();
        x.evening();
        x.write(2, 1, 'b', 7);
        int[] then = {3, -15, 8, 2, 2};
        int[] now = {4, -8, 9, 0, 3};
        for (int what = 0; what <= 4; what++) {
            Check.same("page 2 then, " + what, then[what], x.pageOf(1, 2, what));
            Check.same("page 2 now, " + what, now[what], x.pageOf(-1, 2, what));
        }
        Check.same("at the beginning it has its sheet alone", 1, x.pageOf(0, 2, 3));
        Check.same("all evenings have the sheet of page 3", 3, x.pageOf(-1, 3, 3));
        x.forget(1);
        Check.same("a forgotten evening has none", 1, x.pageOf(2, 2, 3));
        x.add(5, 'a', 1);
        Check.same("people with an entry at the first place alone", 1, x.pageOf(-1, 5, 4));
        x.write(6, 5, 'j', 1);
        Check.same("people with an entry at the last place alone", 1, x.pageOf(-1, 6, 4));
        Check.same("people without entries", 0, x.pageOf(-1, 7, 4));
        x.write(6, 0, 'i', 1);
        Check.same("people of the next page do not count", 1, x.pageOf(-1, 5, 4));
        Check.fails("that evening, ahead of the page", Check.INDEX, () -> x.pageOf(1, 8, 5));
        Check.fails("page 8", Check.ARGUMENT, () -> x.pageOf(0, 8, 0));
        Check.fails("page -1", Check.ARGUMENT, () -> x.pageOf(0, -1, 0));
        Check.fails("what 5", Check.ARGUMENT, () -> x.pageOf(0, 0, 5));
        Check.fails("what -1", Check.ARGUMENT, () -> x.pageOf(0, 0, -1));
    }

    private static void nowIsChangedBehindForgottenEvenings() {
        EveningLedger x = Look.after("e;e;e;f0;f1;f2");
        Check.same("write", 1, x.write(0, 5, 'a', 1));
        Check.same("add", 0, x.add(0, 'b', -2));
        Check.same("swap", 2, x.swap(0, 0, 5));
        Check.same("owe", -3, x.owe(0, 5, -1));
        Check.same("the page", "a1 . . . . b-3", Look.told(x, -1, 0));
        Check.same("entries now", 2, x.account(5));
        Check.same("sum now", -2, x.account(6));
        x.evening();
        Check.same("the evening", "a1 . . . . b-3", Look.told(x, 4, 0));
        Check.same("strike", 1, x.strike(0, 0));
        Check.same("the evening stays", "a1 . . . . b-3", Look.told(x, 4, 0));
    }

    private static void sheetsAreCopiedWhenShared() {
        EveningLedger x = new EveningLedger();
        x.add(0, 'a', 1);
        Check.same("the evening 0 shared it: write and add copy", 8, x.pageOf(-1, 0, 2));
        x.owe(0, 0, 1);
        Check.same("a sheet of now alone is changed itself", 8, x.pageOf(-1, 0, 2));
        x.evening();
        x.owe(0, 0, 0);
        Check.same("owe by 0 copies", 9, x.pageOf(-1, 0, 2));
        x.evening();
        x.strike(0, 0);
        Check.same("strike copies", 10, x.pageOf(-1, 0, 2));
        x.evening();
        x.write(0, 0, 'b', 1);
        Check.same("write copies", 11, x.pageOf(-1, 0, 2));
        x.evening();
        x.owe(0, 0, -1);
        Check.same("owe that strikes out copies once", 12, x.pageOf(-1, 0, 2));
        Check.same("copies", 5, x.account(4));
        Check.fails("a refusal", Check.REFUSED, () -> x.strike(1, 0));
        Check.same("makes no copy", 5, x.account(4));
    }
}
