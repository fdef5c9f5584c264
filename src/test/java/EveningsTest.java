/** Promises 10 to 16. */
final class EveningsTest {
    public static void main(String[] arguments) {
        promise10Evening();
        promise11TakeOver();
        promise11TakenOverSheetsAreShared();
        promise12Forget();
        promise12ForgetWhatIsGone();
        promise13KeptAt();
        promise14SheetsApart();
        promise15PlacesApart();
        promise16IsLike();
        Check.finish();
    }

    private static EveningLedger full() {
        EveningLedger x = new EveningLedger();
        for (int evening = 1; evening <= 11; evening++) {
            x.evening();
        }
        return x;
    }

    private static void promise10Evening() {
        EveningLedger x = new EveningLedger();
        x.write(0, 0, 'a', 1);
        for (int evening = 1; evening <= 11; evening++) {
            Check.same("the next evening", evening, x.evening());
            x.owe(0, 0, 1);
        }
        Check.same("kept", 12, x.account(1));
        for (int evening = 0; evening <= 11; evening++) {
            Check.same("the debt on " + evening, evening, x.debtAt(evening, 0, 0));
        }
        Check.same("the debt now", 12, x.debtAt(-1, 0, 0));
        EveningLedger refusing = full();
        Check.refuses("a 13th one", refusing, 1, 12, refusing::evening);
        EveningLedger y = full();
        Check.fails("a 13th one", Check.REFUSED, y::evening);
        Check.fails("a question about it", Check.INDEX, () -> y.show(12));
        y.forget(5);
        Check.same("a number is not used again", 12, y.evening());
        Check.fails("full again", Check.REFUSED, y::evening);
        y.undo();
        Check.same("unless it was undone", 12, y.evening());
        Check.same("an evening makes no copy", 0, y.account(4));
    }

    private static void promise11TakeOver() {
        EveningLedger x = new EveningLedger();
        x.write(3, 1, 'c', 33);
        x.evening();
        x.strike(3, 1);
        x.write(3, 2, 'd', 44);
        Check.same("sheets before", 10, x.account(2));
        Check.same("its sheet then", 8, x.takeOver(3, 1));
        Check.same("the sheet of now alone is gone", 9, x.account(2));
        Check.same("the entries then", ". c33 . . . .", Look.told(x, -1, 3));
        Check.same("taken over", 1, x.account(9));
        Check.same("no copy", 2, x.account(4));
        Check.same("nothing is struck out by that", 1, x.account(8));
        Check.refuses("it has the sheet already", x, 6, 8, () -> x.takeOver(3, 1));
        Check.fails("from now", Check.REFUSED, () -> x.takeOver(5, -1));
        Check.same("from now, the sheet", 5, x.reason(true));
        Check.same("from the beginning", 3, x.takeOver(3, 0));
        Check.same("empty again", 0, x.pageOf(-1, 3, 0));
        Check.fails("page 8", Check.INDEX, () -> x.takeOver(8, 0));
        Check.fails("page -1", Check.INDEX, () -> x.takeOver(-1, 0));
        Check.fails("evening 2", Check.INDEX, () -> x.takeOver(0, 2));
        Check.fails("evening -2", Check.INDEX, () -> x.takeOver(0, -2));
        x.forget(0);
        Check.fails("a forgotten evening", Check.INDEX, () -> x.takeOver(3, 0));
        Check.same("taken over twice", 2, x.account(9));
    }

    private static void promise11TakenOverSheetsAreShared() {
        EveningLedger x = Look.after("0+a5;e;0+b6");
        x.takeOver(0, 1);
        x.owe(0, 0, 1);
        Check.same("the evening stays as it was", 5, x.debtAt(1, 0, 0));
        Check.same("it was copied for that", 10, x.pageOf(-1, 0, 2));
        Check.same("numbers go on", 11, x.account(3));
    }

    private static void promise12Forget() {
        EveningLedger x = Look.after("0+a5;e;0+b6;e");
        Check.failsCleanly("now", x, Check.INDEX, () -> x.forget(-1));
        Check.fails("evening 3", Check.INDEX, () -> x.forget(3));
        Check.fails("evening -2", Check.INDEX, () -> x.forget(-2));
        Check.refuses("the latest one", x, 5, 2, () -> x.forget(2));
        Check.same("the sheet of then is gone", 1, x.forget(1));
        Check.fails("it twice", Check.INDEX, () -> x.forget(1));
        Check.same("kept", 2, x.account(1));
        Check.same("the latest", 2, x.account(0));
        Check.same("the others stay as they were", "a5 b6 . . . .", Look.told(x, 2, 0));
        Check.same("that at the beginning, too", 1, x.forget(0));
        EveningLedger y = new EveningLedger();
        Check.refuses("the only one", y, 5, 0, () -> y.forget(0));
    }

    private static void promise12ForgetWhatIsGone() {
        EveningLedger x = Look.after("0+a1;1+a1;2+a1;e;0+a1;1+a1;2+a1;e;t0@1;0+b1");
        Check.same("sheets", 15, x.account(2));
        x.takeOver(1, 1);
        Check.same("now has one of three still", 2, x.forget(1));
        Check.same("sheets then", 13, x.account(2));
        Check.same("sheets made", 15, x.account(3));
        x.takeOver(2, 0);
        Check.same("of those at the beginning two are gone", 2, x.forget(0));
        Check.same("its sheet stays on the page", 2, x.pageOf(-1, 2, 2));
    }

    private static void promise13KeptAt() {
        EveningLedger x = full();
        for (int place = 0; place < 12; place++) {
            Check.same("kept at " + place, place, x.keptAt(place));
        }
        Check.fails("place 12", Check.ELEMENT, () -> x.keptAt(12));
        Check.fails("place -1", Check.ELEMENT, () -> x.keptAt(-1));
        x.forget(0);
        x.forget(4);
        x.forget(10);
        int[] due = {1, 2, 3, 5, 6, 7, 8, 9, 11};
        for (int place = 0; place < due.length; place++) {
            Check.same("kept at " + place, due[place], x.keptAt(place));
        }
        Check.fails("place 9", Check.ELEMENT, () -> x.keptAt(9));
    }

    private static void promise14SheetsApart() {
        EveningLedger x = Look.after("0+a1;7+a1;e;0+a1;3+a1;00-");
        Check.same("two pages since the beginning", 2, x.sheetsApart(0, 1));
        Check.same("two pages since then", 2, x.sheetsApart(1, -1));
        Check.same("the other way round", 3, x.sheetsApart(-1, 0));
        Check.same("one and itself", 0, x.sheetsApart(1, 1));
        Check.same("now and itself", 0, x.sheetsApart(-1, -1));
        Check.fails("no such evening", Check.INDEX, () -> x.sheetsApart(2, 0));
        Check.fails("no such other", Check.INDEX, () -> x.sheetsApart(0, 2));
        Check.fails("evening -2", Check.INDEX, () -> x.sheetsApart(0, -2));
    }

    private static void promise15PlacesApart() {
        EveningLedger x = Look.after("00a1;01b2;02c3;73d4;e;00-;00b1", "01-;01b3;02-;04e5");
        Check.same("person, debt, none and none", 4, x.placesApart(1, -1));
        Check.same("the other way round", 4, x.placesApart(-1, 1));
        Check.same("since the beginning", 4, x.placesApart(0, 1));
        Check.same("one and itself", 0, x.placesApart(1, 1));
        Check.fails("no such evening", Check.INDEX, () -> x.placesApart(2, 0));
        Check.fails("no such other", Check.INDEX, () -> x.placesApart(0, 2));
        Check.fails("evening -2", Check.INDEX, () -> x.placesApart(-2, 0));
    }

    private static void promise16IsLike() {
        EveningLedger x = Look.after("00a1;10b2;e;00-;00a1;10-;10c2;e", "20a1;e;20-;20a2");
        Check.same("like, on another sheet", true, x.isLike(1, 2, 0));
        Check.same("the sheet is another one", false, x.pageOf(1, 0, 2) == x.pageOf(2, 0, 2));
        Check.same("another person", false, x.isLike(1, 2, 1));
        Check.same("another debt", false, x.isLike(3, -1, 2));
        Check.same("no entry", false, x.isLike(0, 1, 0));
        Check.same("a page on which nothing was done", true, x.isLike(0, -1, 7));
        Check.fails("no such evening ahead of the page", Check.INDEX, () -> x.isLike(4, 0, 8));
        Check.fails("no such other ahead of the page", Check.INDEX, () -> x.isLike(0, 4, 8));
        Check.fails("page 8", Check.ARGUMENT, () -> x.isLike(0, 0, 8));
        Check.fails("page -1", Check.ARGUMENT, () -> x.isLike(0, 0, -1));
    }
}
