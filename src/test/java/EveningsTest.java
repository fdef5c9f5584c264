/** Promises 10 to 16, sentence by sentence. */
final class EveningsTest {
    private static final String NO_EVENING = "Throws `IndexOutOfBoundsException` if there is no such evening";
    private static final String NO_EITHER = NO_EVENING + ", for either";

    public static void main(String[] arguments) {
        promise10Comes();
        promise10Returns();
        promise10Refused();
        promise11TakesOver();
        promise11Returns();
        promise11NoSuchThing();
        promise11Refused();
        promise12Forgets();
        promise12Returns();
        promise12NoSuchThing();
        promise12Refused();
        promise13KeptAt();
        promise13NoSuchThing();
        promise14SheetsApart();
        promise14NoSuchThing();
        promise15PlacesApart();
        promise15EachPlace();
        promise15NoSuchThing();
        promise16IsLike();
        promise16EachPlace();
        promise16NoSuchThing();
        Check.finish(10, 16);
    }

    private static void promise10Comes() {
        Check.promise(10, "Lets an evening come.");
        EveningLedger x = Look.after("00a999;75j~999");
        String now = Look.day(x, -1);
        x.evening();
        Check.same("the evening is as now is", now, Look.day(x, 1).replace("\n1:", "\n-1:"));
        Check.same("now is as before", now, Look.day(x, -1));
        Check.same("kept", 2, x.account(1));
        Check.same("the latest", 1, x.account(0));
        Check.same("it can be asked about", 999, x.debtAt(1, 0, 0));
        Check.fails("the next one can't", Check.INDEX, () -> x.debtAt(2, 0, 0));
        Check.same("no copy is made", 2, x.account(4));
        x.evening();
        Check.same("also without a change between two", 0, x.sheetsApart(1, 2));
        Check.same("kept", 3, x.account(1));
    }

    private static void promise10Returns() {
        Check.promise(10, "Returns its number.");
        EveningLedger x = new EveningLedger();
        for (int evening = 1; evening <= 11; evening++) {
            Check.same("the next one", evening, x.evening());
        }
        x.forget(0);
        Check.same("behind the beginning that is forgotten", 12, x.evening());
        x.forget(11);
        x.forget(5);
        Check.same("behind two that are forgotten", 13, x.evening());
        Check.same("it is the latest one", 13, x.account(0));
        x.undo();
        Check.same("once more, as it was undone", 13, x.evening());
        Check.same("and the last that fits", 14, x.evening());
    }

    private static void promise10Refused() {
        Check.promise(10, "Throws `UnsupportedOperationException` if it is refused for the reason 1; the reason is then"
            + " kept");
        Check.refuses("a 13th one", Look::fullOfEvenings, 1, 12, x -> x.evening());
        Check.refuses("a 13th one with other numbers", EveningsTest::fullOfLaterEvenings, 1, 12, x -> x.evening());
        EveningLedger x = Look.fullOfEvenings();
        Check.fails("the 13th one", Check.REFUSED, x::evening);
        Check.fails("it did not come", Check.INDEX, () -> x.show(12));
        x.forget(10);
        Check.same("when one is forgotten", 12, x.evening());
        Check.fails("full again", Check.REFUSED, x::evening);
        x.undo();
        Check.same("when one is undone", 12, x.evening());
    }

    /** It keeps 12, the latest with the number 15. */
    private static EveningLedger fullOfLaterEvenings() {
        EveningLedger x = Look.fullOfEvenings();
        for (int evening = 0; evening < 4; evening++) {
            x.forget(2 * evening);
            x.evening();
        }
        return x;
    }

    private static void promise11TakesOver() {
        Check.promise(11, "Takes a page over from an evening.");
        EveningLedger x = Look.after("00a1;75j~1;e;00-;05b2;75-;70c3;e", "00d4;71d4");
        x.takeOver(0, 1);
        x.takeOver(7, 1);
        Check.same("the first page", "a1 . . . . .", Look.told(x, -1, 0));
        Check.same("the last page", ". . . . . j-1", Look.told(x, -1, 7));
        x.takeOver(0, 2);
        Check.same("from the latest one", ". . . . . b2", Look.told(x, -1, 0));
        Check.same("the other page stays", ". . . . . j-1", Look.told(x, -1, 7));
        x.takeOver(7, 0);
        Check.same("from the beginning", ". . . . . .", Look.told(x, -1, 7));
        Check.same("pages taken over", 4, x.account(9));
        Check.same("nothing is written by that", 6, x.account(7));
        Check.same("nothing is struck out by that", 2, x.account(8));
        Check.same("the evening stays", ". . . . . j-1", Look.told(x, 1, 7));
        x.write(7, 0, 'e', 5);
        Check.same("the beginning stays, too", ". . . . . .", Look.told(x, 0, 7));
        Check.same("behind it", "e5 . . . . .", Look.told(x, -1, 7));
    }

    private static void promise11Returns() {
        Check.promise(11, "Returns the sheet.");
        EveningLedger x = Look.after("00a1;70a1;e;00-;70-");
        Check.same("sheets that are left", 12, x.account(2));
        Check.same("that of the first copy", 8, x.takeOver(0, 1));
        Check.same("what now had alone is gone", 11, x.account(2));
        Check.same("the sheet of now", 8, x.pageOf(-1, 0, 2));
        Check.same("the first one", 0, x.takeOver(0, 0));
        Check.same("nothing is gone by that", 11, x.account(2));
        Check.same("the last one of the beginning", 7, x.takeOver(7, 0));
        Check.same("the second copy", 9, x.takeOver(7, 1));
    }

    private static void promise11NoSuchThing() {
        Check.promise(11, "Throws `IndexOutOfBoundsException` if there is no such page or evening");
        Edges.pages(Check.INDEX, (x, page) -> x.takeOver(page, 2));
        Edges.evenings((x, evening) -> x.takeOver(7, evening));
        Check.leaves("neither the page nor the evening", Look::busy, Check.INDEX, x -> x.takeOver(8, 3));
        Check.order();
        Check.leaves("page, from now", Look::busy, Check.INDEX, x -> x.takeOver(-1, -1));
    }

    private static void promise11Refused() {
        Check.promise(11, "Throws `UnsupportedOperationException` if it is refused for the reason 6; the reason is then"
            + " kept");
        Check.refuses("the first sheet", EveningLedger::new, 6, 0, x -> x.takeOver(0, 0));
        Check.refuses("the last one of the beginning", EveningLedger::new, 6, 7, x -> x.takeOver(7, 0));
        Check.refuses("from now, a sheet of now alone", Look::busy, 6, 11, x -> x.takeOver(7, -1));
        Check.refuses("from now, a sheet of the beginning", Look::busy, 6, 5, x -> x.takeOver(5, -1));
        Check.refuses("from the latest one", Look::busy, 6, 2, x -> x.takeOver(2, 2));
        Check.refuses("the sheet that was taken over", Look::busy, 6, 3, x -> x.takeOver(3, 2));
        EveningLedger x = Look.after("00a1;e;00-;00a1;e");
        Check.same("the same entries on another sheet", 8, x.takeOver(0, 1));
        Check.fails("then it has it", Check.REFUSED, () -> x.takeOver(0, 1));
        Check.same("taken over", 1, x.account(9));
    }

    private static void promise12Forgets() {
        Check.promise(12, "Forgets an evening.");
        EveningLedger x = Look.after("00a1;e;00-;75b2;e;01c3;e;74d4");
        String second = Look.day(x, 2);
        String third = Look.day(x, 3);
        String now = Look.day(x, -1);
        x.forget(1);
        Check.fails("it is not there", Check.INDEX, () -> x.debtAt(1, 0, 0));
        Check.same("kept", 3, x.account(1));
        Check.same("the next one stays", second, Look.day(x, 2));
        Check.same("the latest one stays", third, Look.day(x, 3));
        Check.same("now stays", now, Look.day(x, -1));
        x.forget(0);
        x.forget(2);
        Check.same("one is kept", 1, x.account(1));
        Check.same("the latest one stays", third, Look.day(x, 3));
        Check.same("now stays", now, Look.day(x, -1));
        x.write(3, 3, 'e', 5);
        Check.same("now can be changed", ". . . e5 . .", Look.told(x, -1, 3));
        Check.same("the latest one stays", third, Look.day(x, 3));
        Check.same("an account of what was written", 5, x.account(7));
    }

    private static void promise12Returns() {
        Check.promise(12, "Returns how many sheets are gone by that.");
        String allPages = "0+a1;1+a1;2+a1;3+a1;4+a1;5+a1;6+a1;7+a1;e;e";
        EveningLedger x = Look.after(allPages, allPages);
        Check.same("all of the beginning", 8, x.forget(0));
        Check.same("none, as the next one has them", 0, x.forget(1));
        Check.same("all, as none has them any more", 8, x.forget(2));
        Check.same("none, as the latest one and now have them", 0, x.forget(3));
        Check.same("sheets that are left", 8, x.account(2));
        Check.same("sheets made", 24, x.account(3));
        EveningLedger y = Look.after("0+a1;7+a1;e;0+b1;7+b1;e");
        y.takeOver(7, 1);
        Check.same("one, as now has the other", 1, y.forget(1));
        Check.same("now has it still", 9, y.pageOf(-1, 7, 2));
        Check.same("its entries, too", "a1 . . . . .", Look.told(y, -1, 7));
    }

    private static void promise12NoSuchThing() {
        Check.promise(12, NO_EVENING);
        Edges.right("evening", Check.INDEX, (x, evening) -> x.forget(evening), 0, 2);
        Edges.wrong("evening", Check.INDEX, (x, evening) -> x.forget(evening),
            Integer.MIN_VALUE, -2, 1, 3, Integer.MAX_VALUE);
        Check.promise(12, "`evening`: the evening, not -1");
        Check.leaves("now", Look::busy, Check.INDEX, x -> x.forget(-1));
        Check.leaves("now, when one is kept", EveningLedger::new, Check.INDEX, x -> x.forget(-1));
        Check.leaves("now, when 12 are kept", Look::fullOfEvenings, Check.INDEX, x -> x.forget(-1));
    }

    private static void promise12Refused() {
        Check.promise(12, "Throws `UnsupportedOperationException` if it is refused for the reason 5; the reason is then"
            + " kept");
        Check.refuses("the beginning alone", EveningLedger::new, 5, 0, x -> x.forget(0));
        Check.refuses("the latest one", Look::busy, 5, 2, x -> x.forget(2));
        Check.refuses("the latest one of 12", Look::fullOfEvenings, 5, 11, x -> x.forget(11));
        Check.refuses("the only one that is left", () -> Look.after("e;e;f0;f1"), 5, 2, x -> x.forget(2));
        EveningLedger x = Look.fullOfEvenings();
        Check.same("the one ahead of the latest", 0, x.forget(10));
        x.forget(0);
        x.evening();
        Check.same("one that is the latest no longer", 0, x.forget(11));
        Check.fails("the one that is now", Check.REFUSED, () -> x.forget(12));
        x.undo();
        x.undo();
        Check.fails("the one that is the latest again", Check.REFUSED, () -> x.forget(11));
    }

    private static void promise13KeptAt() {
        Check.promise(13, "Returns a kept evening by its number.");
        EveningLedger x = Look.fullOfEvenings();
        for (int place = 0; place < 12; place++) {
            Check.same("of 12, at " + place, place, x.keptAt(place));
        }
        Check.promise(13, "`place`: the place, 0 for the earliest one");
        x.forget(0);
        Check.same("the earliest one then", 1, x.keptAt(0));
        x.forget(4);
        x.forget(10);
        Check.promise(13, "Returns the evening.");
        int[] due = {1, 2, 3, 5, 6, 7, 8, 9, 11};
        for (int place = 0; place < due.length; place++) {
            Check.same("of 9, at " + place, due[place], x.keptAt(place));
        }
        x.evening();
        Check.same("the latest one", 12, x.keptAt(9));
        Check.same("the only one", 0, new EveningLedger().keptAt(0));
    }

    private static void promise13NoSuchThing() {
        Check.promise(13, "Throws `NoSuchElementException` if there is no such place");
        Edges.right("place", Check.ELEMENT, (x, place) -> x.keptAt(place), 0, 1);
        Edges.wrong("place", Check.ELEMENT, (x, place) -> x.keptAt(place),
            Integer.MIN_VALUE, -1, 2, 12, Integer.MAX_VALUE);
        Check.fails("the place behind the only one", Check.ELEMENT, () -> new EveningLedger().keptAt(1));
        Check.leaves("the place behind 12", Look::fullOfEvenings, Check.ELEMENT, x -> x.keptAt(12));
        EveningLedger x = Look.fullOfEvenings();
        x.forget(5);
        Check.same("the last place", 11, x.keptAt(10));
        Check.fails("what was the last place", Check.ELEMENT, () -> x.keptAt(11));
    }

    private static void promise14SheetsApart() {
        Check.promise(14, "Returns how many pages have different sheets on two evenings.");
        EveningLedger x = Look.after("0+a1;1+a1;2+a1;3+a1;4+a1;5+a1;6+a1;7+a1;e", "0+a1;00-;e;7+b2");
        Check.same("all of them", 8, x.sheetsApart(0, 1));
        Check.same("the first page", 1, x.sheetsApart(1, 2));
        Check.same("the last page", 1, x.sheetsApart(2, -1));
        Check.same("both", 2, x.sheetsApart(1, -1));
        Check.same("the other way round", 2, x.sheetsApart(-1, 1));
        Check.promise(14, "Returns how many.");
        Check.same("an evening and itself", 0, x.sheetsApart(2, 2));
        Check.same("now and itself", 0, x.sheetsApart(-1, -1));
        x.takeOver(7, 2);
        Check.same("taken over", 0, x.sheetsApart(2, -1));
        EveningLedger y = Look.after("00a1;e;00-;00a1");
        Check.same("the same entries on another sheet", 1, y.sheetsApart(1, -1));
    }

    private static void promise14NoSuchThing() {
        Check.promise(14, NO_EITHER);
        Edges.evenings((x, evening) -> x.sheetsApart(evening, 0));
        Edges.evenings((x, other) -> x.sheetsApart(0, other));
        Edges.wrong("both", Check.INDEX, (x, evening) -> x.sheetsApart(evening, evening), -2, 1, 3);
    }

    private static void promise15PlacesApart() {
        Check.promise(15, "Returns how many places are different on two evenings: other people, other debts, or no"
            + " entry on one of them.");
        EveningLedger x = Look.after("00a1;01b2;02c3;73d4;e;00-;00b1", "01-;01b3;02-;04e5");
        Check.same("a person, a debt, none now and none then", 4, x.placesApart(1, -1));
        Check.same("the other way round", 4, x.placesApart(-1, 1));
        Check.promise(15, "Returns how many.");
        Check.same("an evening and itself", 0, x.placesApart(1, 1));
        Check.same("now and itself", 0, x.placesApart(-1, -1));
        EveningLedger y = Look.filled('a', 1);
        Check.same("all of them, none at the beginning", 48, y.placesApart(0, -1));
        y.evening();
        y.swap(0, 0, 5);
        Check.same("the same entries at swapped places", 0, y.placesApart(1, -1));
        y.strike(0, 0);
        Check.same("the first place", 1, y.placesApart(1, -1));
        Check.same("all but one", 47, y.placesApart(0, -1));
        y.owe(7, 5, -2);
        Check.same("the last place, too", 2, y.placesApart(1, -1));
    }

    private static void promise15EachPlace() {
        Check.promise(15, "Returns how many places are different on two evenings: other people, other debts, or no"
            + " entry on one of them.");
        EveningLedger x = Look.after("00a1;e");
        for (int place = 0; place < 6; place++) {
            x.write(7, place, 'j', -1);
            Check.same("one more", place + 1, x.placesApart(1, -1));
        }
        x.strike(0, 0);
        Check.same("an entry that is none now", 7, x.placesApart(1, -1));
        x.write(0, 0, 'b', 1);
        Check.same("another person", 7, x.placesApart(1, -1));
        x.strike(0, 0);
        x.write(0, 0, 'a', -1);
        Check.same("the debt below 0", 7, x.placesApart(1, -1));
        x.strike(0, 0);
        x.write(0, 0, 'a', 1);
        Check.same("the same again, on another sheet", 6, x.placesApart(1, -1));
    }

    private static void promise15NoSuchThing() {
        Check.promise(15, NO_EITHER);
        Edges.evenings((x, evening) -> x.placesApart(evening, 0));
        Edges.evenings((x, other) -> x.placesApart(0, other));
        Edges.wrong("both", Check.INDEX, (x, evening) -> x.placesApart(evening, evening), -2, 1, 3);
    }

    private static void promise16IsLike() {
        Check.promise(16, "Tells whether a page has entries on two evenings that are the same at each place, also if"
            + " its sheets are different.");
        EveningLedger x = Look.after("00a1;10b2;e;00-;00a1;10-;10c2;e", "20a1;e;20-;20a2");
        Check.same("the same, on another sheet", true, x.isLike(1, 2, 0));
        Check.same("the sheets are different", 8, x.pageOf(1, 0, 2));
        Check.same("the sheets are different", 10, x.pageOf(2, 0, 2));
        Check.same("the same the other way round", true, x.isLike(2, 1, 0));
        Check.same("on its sheet", true, x.isLike(2, 3, 0));
        Check.promise(16, "Returns whether it is so.");
        Check.same("another person", false, x.isLike(1, 2, 1));
        Check.same("another debt", false, x.isLike(3, -1, 2));
        Check.same("no entry on the one", false, x.isLike(0, 1, 0));
        Check.same("no entry on the other", false, x.isLike(1, 0, 0));
        Check.same("a page without entries", true, x.isLike(0, -1, 7));
        Check.same("an evening and itself", true, x.isLike(1, 1, 0));
        Check.same("now and itself", true, x.isLike(-1, -1, 2));
        x.strike(2, 0);
        Check.same("empty again, on another sheet", true, x.isLike(0, -1, 2));
    }

    private static void promise16EachPlace() {
        Check.promise(16, "Tells whether a page has entries on two evenings that are the same at each place, also if"
            + " its sheets are different.");
        EveningLedger x = new EveningLedger();
        for (int place = 0; place < 6; place++) {
            x.write(3, place, 'a', 1);
            Check.same("with one entry more", false, x.isLike(0, -1, 3));
            Check.same("the page ahead", true, x.isLike(0, -1, 2));
            Check.same("the page behind", true, x.isLike(0, -1, 4));
            x.strike(3, place);
            Check.same("without it", true, x.isLike(0, -1, 3));
        }
        EveningLedger y = Look.after("00a1;05b1;70a1;e");
        y.swap(0, 0, 5);
        Check.same("the same entries at other places", false, y.isLike(1, -1, 0));
        y.owe(7, 0, 0);
        Check.same("more by 0", true, y.isLike(1, -1, 7));
    }

    private static void promise16NoSuchThing() {
        Check.promise(16, NO_EITHER);
        Edges.evenings((x, evening) -> x.isLike(evening, 0, 0));
        Edges.evenings((x, other) -> x.isLike(0, other, 0));
        Edges.wrong("both", Check.INDEX, (x, evening) -> x.isLike(evening, evening, 0), -2, 1, 3);
        Check.promise(16, "Throws `IllegalArgumentException` if there is no such page");
        Edges.pages(Check.ARGUMENT, (x, page) -> x.isLike(0, -1, page));
        Check.order();
        Check.leaves("evening and page", Look::busy, Check.INDEX, x -> x.isLike(1, 0, 8));
        Check.leaves("other and page", Look::busy, Check.INDEX, x -> x.isLike(0, 3, -1));
    }
}
