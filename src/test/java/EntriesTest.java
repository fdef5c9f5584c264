/** Promises 1 to 9, sentence by sentence. */
final class EntriesTest {
    private static final String NO_PLACE = "Throws `IndexOutOfBoundsException` if there is no such page or place";
    private static final String NO_PLACE_ASKED = "Throws `IllegalArgumentException` if there is no such page or place";
    private static final String NO_EVENING = "Throws `IndexOutOfBoundsException` if there is no such evening";
    private static final String NO_ENTRY = "Throws `IllegalArgumentException` if there is no such person, or the debt"
        + " is out of range or 0";

    public static void main(String[] arguments) {
        promise1EmptyPages();
        promise1ObjectsOfTheirOwn();
        promise2Writes();
        promise2Returns();
        promise2NoSuchThing();
        promise2Refused();
        promise3Adds();
        promise3NoSuchThing();
        promise3Refused();
        promise4MoreOrLess();
        promise4StruckOut();
        promise4NoSuchThing();
        promise4Refused();
        promise4AtTheLimits();
        promise5Strikes();
        promise5Refused();
        promise6Swaps();
        promise6Returns();
        promise6Refused();
        promise7PersonAt();
        promise7NoSuchThing();
        promise8DebtAt();
        promise8NoSuchThing();
        promise9EntriesAndSums();
        promise9SheetsAndEvenings();
        promise9People();
        promise9NoSuchThing();
        Check.finish(1, 9);
    }

    private static void promise1EmptyPages() {
        Check.promise(1, "Creates a ledger with empty pages.");
        EveningLedger x = new EveningLedger();
        for (int page = 0; page < 8; page++) {
            for (int place = 0; place < 6; place++) {
                for (int evening = -1; evening <= 0; evening++) {
                    Check.same("debt of a new place", 0, x.debtAt(evening, page, place));
                }
            }
        }
        for (int page = 0; page < 8; page++) {
            for (int evening = -1; evening <= 0; evening++) {
                Check.same("entries of a new page", 0, x.pageOf(evening, page, 0));
                Check.same("sheet of a new page", page, x.pageOf(evening, page, 2));
                Check.same("a new page", ". . . . . .", Look.told(x, evening, page));
            }
        }
    }

    private static void promise1ObjectsOfTheirOwn() {
        Check.promise(1, "Creates a ledger with empty pages.");
        EveningLedger x = Look.busy();
        EveningLedger y = new EveningLedger();
        int[] due = {0, 1, 8, 8, 0, 0, 0, 0, 0, 0, 0, 0};
        for (int account = 0; account < due.length; account++) {
            Check.same("account " + account + " of a new object", due[account], y.account(account));
        }
        Check.fails("nothing is remembered", Check.ELEMENT, y::undo);
        Check.fails("nothing is saved", Check.STATE, y::restore);
        Check.fails("there is no reason", Check.ELEMENT, () -> y.reason(false));
        Check.fails("there is no error position", Check.ELEMENT, y::errorPosition);
        Check.fails("the line is empty", Check.ELEMENT, () -> y.character(0));
        y.write(0, 5, 'i', 7);
        Check.same("a write on one is none on the other", 0, x.debtAt(-1, 0, 5));
    }

    private static void promise2Writes() {
        Check.promise(2, "Writes an entry at an empty place.");
        EveningLedger x = new EveningLedger();
        x.write(0, 0, 'a', -999);
        x.write(0, 5, 'j', -1);
        x.write(7, 0, 'j', 1);
        x.write(7, 5, 'a', 999);
        Check.same("the first page", "a-999 . . . . j-1", Look.told(x, -1, 0));
        Check.same("the last page", "j1 . . . . a999", Look.told(x, -1, 7));
        for (int page = 1; page <= 6; page++) {
            Check.same("a page between them", ". . . . . .", Look.told(x, -1, page));
        }
        x.strike(0, 0);
        Check.same("at a place that is empty again", 2, x.write(0, 0, 'b', 2));
        Check.same("the first page", "b2 . . . . j-1", Look.told(x, -1, 0));
        Check.same("entries written", 5, x.account(7));
        EveningLedger y = Look.after("00a1;e;00-");
        Check.same("where there was one on an evening", 1, y.write(0, 0, 'a', 1));
    }

    private static void promise2Returns() {
        Check.promise(2, "Returns how many entries the page has then.");
        EveningLedger x = new EveningLedger();
        int[] places = {5, 0, 3, 1, 4, 2};
        for (int index = 0; index < places.length; index++) {
            Check.same("with one more", index + 1, x.write(3, places[index], 'a', 1));
        }
        Check.same("on the page behind the full one", 1, x.write(4, 0, 'a', 1));
        Check.same("on the page ahead of it", 1, x.write(2, 5, 'a', 1));
        x.strike(3, 0);
        Check.same("full again", 6, x.write(3, 0, 'a', 1));
    }

    private static void promise2NoSuchThing() {
        Check.promise(2, NO_PLACE);
        Edges.pages(Check.INDEX, (x, page) -> x.write(page, 3, 'a', 1));
        Edges.places(Check.INDEX, (x, place) -> x.write(5, place, 'a', 1));
        Check.promise(2, NO_ENTRY);
        Edges.people((x, person) -> x.write(5, 0, person, 1));
        Edges.debts((x, debt) -> x.write(5, 0, 'a', debt));
        Check.order();
        Check.leaves("page, person and debt", Look::busy, Check.INDEX, x -> x.write(8, 0, 'k', 0));
        Check.leaves("place, person and debt", Look::busy, Check.INDEX, x -> x.write(0, 6, 'k', 1000));
        Check.leaves("place -1 with an entry ahead", Look::busy, Check.INDEX, x -> x.write(7, -1, '`', -1000));
        Check.leaves("person, at a place with an entry", Look::busy, Check.ARGUMENT, x -> x.write(0, 0, 'k', 1));
        Check.leaves("debt 0, at a place with an entry", Look::busy, Check.ARGUMENT, x -> x.write(0, 0, 'a', 0));
        Check.leaves("debt 1000, at a place with an entry", Look::busy, Check.ARGUMENT,
            x -> x.write(0, 0, 'a', 1000));
    }

    private static void promise2Refused() {
        Check.promise(2, "Throws `UnsupportedOperationException` if it is refused for the reason 2; the reason is then"
            + " kept");
        Check.refuses("the first place", Look::busy, 2, -9, x -> x.write(0, 0, 'a', 1));
        Check.refuses("its very entry", Look::busy, 2, -9, x -> x.write(0, 0, 'b', -9));
        Check.refuses("the last place", Look::busy, 2, -999, x -> x.write(7, 5, 'a', 1));
        for (int debt : new int[] {-999, -1, 1, 999}) {
            Check.refuses("a debt of " + debt, () -> withEntry(debt), 2, debt, x -> x.write(3, 2, 'a', 5));
        }
    }

    private static EveningLedger withEntry(int debt) {
        EveningLedger x = new EveningLedger();
        x.write(3, 2, 'c', debt);
        return x;
    }

    private static void promise3Adds() {
        Check.promise(3, "Adds an entry at the first empty place of a page.");
        EveningLedger x = new EveningLedger();
        x.write(4, 1, 'b', 5);
        x.add(4, 'a', -999);
        x.add(4, 'j', 999);
        Check.same("the page", "a-999 b5 j999 . . .", Look.told(x, -1, 4));
        x.add(0, 'a', -1);
        x.add(7, 'j', 1);
        Check.same("the first page", "a-1 . . . . .", Look.told(x, -1, 0));
        Check.same("the last page", "j1 . . . . .", Look.told(x, -1, 7));
        Check.same("entries written or added", 5, x.account(7));
        Check.promise(3, "Returns the place.");
        EveningLedger y = new EveningLedger();
        for (int place = 0; place < 6; place++) {
            Check.same("the next place", place, y.add(2, 'a', place + 1));
        }
        for (int place = 0; place < 6; place++) {
            y.strike(2, place);
            Check.same("the only empty place", place, y.add(2, 'b', 1));
        }
        y.strike(2, 5);
        y.strike(2, 3);
        Check.same("the first one of two", 3, y.add(2, 'b', 1));
        Check.same("then the last one", 5, y.add(2, 'b', 1));
        Check.same("a full page says nothing of the next", 0, y.add(3, 'b', 1));
    }

    private static void promise3NoSuchThing() {
        Check.promise(3, "Throws `IndexOutOfBoundsException` if there is no such page");
        Edges.pages(Check.INDEX, (x, page) -> x.add(page, 'a', 1));
        Check.promise(3, NO_ENTRY);
        Edges.people((x, person) -> x.add(5, person, 1));
        Edges.debts((x, debt) -> x.add(5, 'a', debt));
        Check.order();
        Check.leaves("page, person and debt", Look::busy, Check.INDEX, x -> x.add(8, 'k', 0));
        Check.leaves("person, on a full page", EntriesTest::withFullPage, Check.ARGUMENT, x -> x.add(4, 'k', 1));
        Check.leaves("debt 0, on a full page", EntriesTest::withFullPage, Check.ARGUMENT, x -> x.add(4, 'a', 0));
        Check.leaves("debt -1000, on a full page", EntriesTest::withFullPage, Check.ARGUMENT,
            x -> x.add(4, 'a', -1000));
    }

    private static EveningLedger withFullPage() {
        EveningLedger x = new EveningLedger();
        Look.fill(x, 4, 'a', 3);
        return x;
    }

    private static void promise3Refused() {
        Check.promise(3, "Throws `UnsupportedOperationException` if it is refused for the reason 7; the reason is then"
            + " kept");
        Check.refuses("a full page", EntriesTest::withFullPage, 7, 6, x -> x.add(4, 'b', 1));
        EveningLedger x = withFullPage();
        x.strike(4, 5);
        Check.same("one that is not full any more", 5, x.add(4, 'b', 1));
        Check.fails("full again", Check.REFUSED, () -> x.add(4, 'b', 1));
        EveningLedger y = withFullPage();
        y.evening();
        y.strike(4, 0);
        Check.same("one that was full on an evening", 0, y.add(4, 'b', 1));
        y.takeOver(4, 1);
        Check.fails("one that is full as it was taken over", Check.REFUSED, () -> y.add(4, 'b', 1));
    }

    private static void promise4MoreOrLess() {
        Check.promise(4, "Makes a debt more or less;");
        EveningLedger x = Look.after("00d5;01d5;02e~1;70a1;75j1");
        x.owe(0, 1, 1);
        x.owe(7, 0, 998);
        x.owe(7, 5, -1000 + 1);
        Check.same("the first page", "d5 d6 e-1 . . .", Look.told(x, -1, 0));
        Check.same("the last page", "a999 . . . . j-998", Look.told(x, -1, 7));
        Check.same("nothing is written by that", 5, x.account(7));
        Check.same("nothing is struck out by that", 0, x.account(8));
        Check.promise(4, "`more`: by how much, below 0 for less");
        Check.same("less", 5, x.owe(0, 1, -1));
        Check.same("from above 0 to below it", -994, x.owe(0, 0, -999));
        Check.same("from below 0 to above it", 5, x.owe(0, 0, 999));
        Check.promise(4, "Returns the debt then.");
        Check.same("more by 0", -1, x.owe(0, 2, 0));
        Check.same("the same that is told", x.owe(0, 2, -41), x.debtAt(-1, 0, 2));
        Check.same("its person stays", 'e', x.personAt(-1, 0, 2));
    }

    private static void promise4StruckOut() {
        Check.promise(4, "an entry whose debt would be 0 is struck out.");
        int[] debts = {-999, -1, 1, 999};
        EveningLedger x = new EveningLedger();
        for (int index = 0; index < debts.length; index++) {
            x.write(5, index, 'd', debts[index]);
            Check.same("the debt then", 0, x.owe(5, index, -debts[index]));
            Check.same("the place is empty", ". . . . . .", Look.told(x, -1, 5));
            Check.same("struck out", index + 1, x.account(8));
            Check.same("written", index + 1, x.account(7));
            Check.fails("there is none any more", Check.REFUSED, () -> x.owe(5, 0, 1));
        }
        x.write(5, 0, 'd', 1);
        Check.same("just not struck out", -1, x.owe(5, 0, -2));
        Check.same("entries now", 1, x.account(5));
    }

    private static void promise4NoSuchThing() {
        Check.promise(4, NO_PLACE);
        Edges.pages(Check.INDEX, (x, page) -> x.owe(page, 0, 1));
        Edges.places(Check.INDEX, (x, place) -> x.owe(7, place, 1));
        Check.promise(4, "Throws `IllegalArgumentException` if the number is not from -999 to 999");
        Edges.right("more by", Check.ARGUMENT, (x, more) -> x.owe(0, 0, more), -999, -1, 0, 1, 999);
        Edges.wrong("more by", Check.ARGUMENT, (x, more) -> x.owe(0, 0, more),
            Integer.MIN_VALUE, -1000, 1000, 65536, Integer.MAX_VALUE);
        Check.order();
        Check.leaves("page and number", Look::busy, Check.INDEX, x -> x.owe(8, 0, 1000));
        Check.leaves("place and number", Look::busy, Check.INDEX, x -> x.owe(0, 6, -1000));
        Check.leaves("number, at an empty place", Look::busy, Check.ARGUMENT, x -> x.owe(5, 0, 1000));
        Check.leaves("number, and beyond by it", Look::busy, Check.ARGUMENT, x -> x.owe(7, 0, 1000));
    }

    private static void promise4Refused() {
        Check.promise(4, "Throws `UnsupportedOperationException` if it is refused for the reason 3 or 4; the reason is"
            + " then kept");
        Check.refuses("the first place", Look::busy, 3, 0, x -> x.owe(5, 0, 1));
        Check.refuses("the last place", Look::busy, 3, 5, x -> x.owe(0, 5, 1));
        Check.refuses("an empty place, by 0", Look::busy, 3, 1, x -> x.owe(7, 1, 0));
        Check.refuses("an empty place, by -999", Look::busy, 3, 1, x -> x.owe(7, 1, -999));
        Check.refuses("an empty place, by 999", Look::busy, 3, 1, x -> x.owe(7, 1, 999));
        Check.refuses("beyond 999 by the least", Look::busy, 4, 1, x -> x.owe(7, 0, 1));
        Check.refuses("beyond 999 by the most", Look::busy, 4, 999, x -> x.owe(7, 0, 999));
        Check.refuses("beyond -999 by the least", Look::busy, 4, 1, x -> x.owe(7, 5, -1));
        Check.refuses("beyond -999 by the most", Look::busy, 4, 999, x -> x.owe(7, 5, -999));
        Check.refuses("1 and 999", () -> withEntry(1), 4, 1, x -> x.owe(3, 2, 999));
        Check.refuses("-1 and -999", () -> withEntry(-1), 4, 1, x -> x.owe(3, 2, -999));
    }

    private static void promise4AtTheLimits() {
        Check.promise(4, "Returns the debt then.");
        EveningLedger x = Look.after("00a998;01a~998;02a999;03a~999");
        Check.same("just not beyond 999", 999, x.owe(0, 0, 1));
        Check.same("just not beyond -999", -999, x.owe(0, 1, -1));
        Check.same("999 more by 0", 999, x.owe(0, 2, 0));
        Check.same("-999 more by 0", -999, x.owe(0, 3, 0));
        Check.same("999 less by 1", 998, x.owe(0, 2, -1));
        Check.same("-999 more by 1", -998, x.owe(0, 3, 1));
    }

    private static void promise5Strikes() {
        Check.promise(5, "Strikes an entry out.");
        EveningLedger x = Look.after("00a999;05b~999;11c1;70a~1;75j1");
        x.strike(0, 0);
        x.strike(7, 5);
        Check.same("the first page", ". . . . . b-999", Look.told(x, -1, 0));
        Check.same("a page between them", ". c1 . . . .", Look.told(x, -1, 1));
        Check.same("the last page", "a-1 . . . . .", Look.told(x, -1, 7));
        Check.same("struck out", 2, x.account(8));
        Check.same("entries now", 3, x.account(5));
        Check.promise(5, "Returns its debt.");
        Check.same("the least", -999, x.strike(0, 5));
        Check.same("just below 0", -1, x.strike(7, 0));
        Check.same("just above 0", 1, x.strike(1, 1));
        x.takeOver(0, 0);
        x.write(0, 0, 'a', 999);
        Check.same("the greatest", 999, x.strike(0, 0));
        Check.promise(5, NO_PLACE);
        Edges.pages(Check.INDEX, (y, page) -> y.strike(page, 0));
        Edges.places(Check.INDEX, (y, place) -> y.strike(7, place));
    }

    private static void promise5Refused() {
        Check.promise(5, "Throws `UnsupportedOperationException` if it is refused for the reason 3; the reason is then"
            + " kept");
        for (int place = 0; place < 6; place++) {
            int empty = place;
            Check.refuses("an empty place", Look::busy, 3, place, x -> x.strike(2, empty));
        }
        Check.refuses("one with an entry on an evening", Look::busy, 3, 2, x -> x.strike(0, 2));
        EveningLedger x = Look.after("00a1");
        x.strike(0, 0);
        Check.fails("what is struck out already", Check.REFUSED, () -> x.strike(0, 0));
    }

    private static void promise6Swaps() {
        Check.promise(6, "Swaps what is at two places of a page.");
        EveningLedger x = Look.after("70a1;71b~2;74c3;75d4;60e5");
        x.swap(7, 0, 5);
        Check.same("the first and the last one", "d4 b-2 . . c3 a1", Look.told(x, -1, 7));
        x.swap(7, 4, 1);
        Check.same("the other one ahead", "d4 c3 . . b-2 a1", Look.told(x, -1, 7));
        x.swap(7, 5, 5);
        Check.same("the last one with itself", "d4 c3 . . b-2 a1", Look.told(x, -1, 7));
        x.swap(7, 0, 0);
        Check.same("the first one with itself", "d4 c3 . . b-2 a1", Look.told(x, -1, 7));
        x.swap(6, 0, 0);
        Check.same("the page ahead", "e5 . . . . .", Look.told(x, -1, 6));
        EveningLedger y = Look.after("00a7;01a7");
        y.swap(0, 0, 1);
        Check.same("two that are the same", "a7 a7 . . . .", Look.told(y, -1, 0));
        Check.same("nothing is written or struck out by that", "2 0", y.account(7) + " " + y.account(8));
    }

    private static void promise6Returns() {
        Check.promise(6, "Returns how many entries the page has.");
        EveningLedger x = new EveningLedger();
        x.add(7, 'a', 1);
        Check.same("the only one with itself", 1, x.swap(7, 0, 0));
        for (int entries = 2; entries <= 6; entries++) {
            x.add(7, 'a', entries);
            Check.same("the first and the last one", entries, x.swap(7, 0, entries - 1));
        }
        Check.promise(6, "Throws `IndexOutOfBoundsException` if there is no such page or place, for either");
        Edges.pages(Check.INDEX, (y, page) -> y.swap(page, 0, 0));
        Edges.places(Check.INDEX, (y, place) -> y.swap(7, place, 0));
        Edges.places(Check.INDEX, (y, other) -> y.swap(7, 0, other));
        Check.order();
        Check.leaves("other -1, from an empty place", Look::busy, Check.INDEX, y -> y.swap(7, 1, -1));
        Check.leaves("other 6, from an empty place", Look::busy, Check.INDEX, y -> y.swap(7, 1, 6));
        Check.leaves("place 6, to an empty place", Look::busy, Check.INDEX, y -> y.swap(7, 6, 1));
    }

    private static void promise6Refused() {
        Check.promise(6, "Throws `UnsupportedOperationException` if it is refused for the reason 3, for the one, then"
            + " for the other; the reason is then kept");
        Check.refuses("the one is empty", Look::busy, 3, 1, x -> x.swap(7, 1, 0));
        Check.refuses("the other is empty", Look::busy, 3, 1, x -> x.swap(7, 0, 1));
        Check.refuses("both are, the one is ahead", Look::busy, 3, 1, x -> x.swap(7, 1, 4));
        Check.refuses("both are, the other is ahead", Look::busy, 3, 4, x -> x.swap(7, 4, 1));
        Check.refuses("the first place", Look::busy, 3, 0, x -> x.swap(2, 0, 5));
        Check.refuses("the last place", Look::busy, 3, 5, x -> x.swap(2, 5, 0));
        Check.refuses("an empty place with itself", Look::busy, 3, 2, x -> x.swap(2, 2, 2));
    }

    private static void promise7PersonAt() {
        Check.promise(7, "Returns the person of an entry on an evening.");
        EveningLedger x = Look.after("00a1;75j1;e;00-;00j1;75-;75a1;e;00-", "f0");
        Check.same("on the earliest one, the first place", 'a', x.personAt(1, 0, 0));
        Check.same("on the earliest one, the last place", 'j', x.personAt(1, 7, 5));
        Check.same("on the latest one, the first place", 'j', x.personAt(2, 0, 0));
        Check.same("on the latest one, the last place", 'a', x.personAt(2, 7, 5));
        Check.same("now", 'a', x.personAt(-1, 7, 5));
        Check.promise(7, "Returns the person.");
        EveningLedger y = new EveningLedger();
        for (int place = 0; place < 6; place++) {
            y.write(0, place, (char) ('j' - place), -1);
            Check.same("at its place", (char) ('j' - place), y.personAt(-1, 0, place));
        }
    }

    private static void promise7NoSuchThing() {
        Check.promise(7, NO_EVENING);
        Edges.evenings((x, evening) -> x.personAt(evening, 7, 0));
        Check.promise(7, NO_PLACE_ASKED);
        Edges.pages(Check.ARGUMENT, (x, page) -> x.personAt(2, page, 0));
        Edges.places(Check.ARGUMENT, (x, place) -> x.personAt(2, 7, place));
        Check.promise(7, "Throws `NoSuchElementException` if there is no entry");
        Check.leaves("the first place, now", Look::busy, Check.ELEMENT, x -> x.personAt(-1, 1, 0));
        Check.leaves("the last place, now", Look::busy, Check.ELEMENT, x -> x.personAt(-1, 0, 5));
        Check.leaves("one with an entry on an evening", Look::busy, Check.ELEMENT, x -> x.personAt(-1, 0, 2));
        Check.leaves("one with an entry now", Look::busy, Check.ELEMENT, x -> x.personAt(2, 4, 2));
        Check.leaves("at the beginning", Look::busy, Check.ELEMENT, x -> x.personAt(0, 7, 0));
        Check.order();
        Check.leaves("evening and page", Look::busy, Check.INDEX, x -> x.personAt(1, 8, 0));
        Check.leaves("evening and place", Look::busy, Check.INDEX, x -> x.personAt(3, 0, 6));
        Check.leaves("evening, and an empty place", Look::busy, Check.INDEX, x -> x.personAt(-2, 1, 0));
    }

    private static void promise8DebtAt() {
        Check.promise(8, "Returns the debt of an entry on an evening.");
        EveningLedger x = Look.after("00a999;75j~999;e;00-;00j1;75-;75a~1;e;00-", "f0");
        Check.same("on the earliest one, the first place", 999, x.debtAt(1, 0, 0));
        Check.same("on the earliest one, the last place", -999, x.debtAt(1, 7, 5));
        Check.same("on the latest one, the first place", 1, x.debtAt(2, 0, 0));
        Check.same("on the latest one, the last place", -1, x.debtAt(2, 7, 5));
        Check.same("now", -1, x.debtAt(-1, 7, 5));
        Check.promise(8, "Returns the debt, 0 without an entry.");
        Check.same("struck out now", 0, x.debtAt(-1, 0, 0));
        Check.same("never written at", 0, x.debtAt(1, 0, 5));
        EveningLedger y = Look.busy();
        Check.same("at the beginning", 0, y.debtAt(0, 7, 5));
        Check.same("struck out since", 0, y.debtAt(-1, 0, 2));
        Check.same("written since", 0, y.debtAt(2, 4, 2));
    }

    private static void promise8NoSuchThing() {
        Check.promise(8, NO_EVENING);
        Edges.evenings((x, evening) -> x.debtAt(evening, 7, 0));
        Check.promise(8, NO_PLACE_ASKED);
        Edges.pages(Check.ARGUMENT, (x, page) -> x.debtAt(2, page, 0));
        Edges.places(Check.ARGUMENT, (x, place) -> x.debtAt(2, 7, place));
        Check.order();
        Check.leaves("evening and page", Look::busy, Check.INDEX, x -> x.debtAt(1, 8, 0));
        Check.leaves("evening and place", Look::busy, Check.INDEX, x -> x.debtAt(3, 0, -1));
    }

    private static void promise9EntriesAndSums() {
        Check.promise(9, "Returns a number of a page on an evening.");
        EveningLedger x = new EveningLedger();
        Look.fill(x, 0, 'a', 999);
        Look.fill(x, 7, 'j', -999);
        x.write(3, 1, 'a', 5);
        x.write(3, 4, 'a', -5);
        x.evening();
        x.strike(0, 5);
        x.strike(7, 0);
        Check.same("entries of a full page then", 6, x.pageOf(1, 0, 0));
        Check.same("of the last page then", 6, x.pageOf(1, 7, 0));
        Check.same("entries now", 5, x.pageOf(-1, 0, 0));
        Check.same("of the last page now", 5, x.pageOf(-1, 7, 0));
        Check.same("entries of an empty page", 0, x.pageOf(1, 1, 0));
        Check.same("at the beginning", 0, x.pageOf(0, 0, 0));
        Check.promise(9, "Returns the number.");
        Check.same("the greatest sum", 5994, x.pageOf(1, 0, 1));
        Check.same("the least sum", -5994, x.pageOf(1, 7, 1));
        Check.same("the sum now", 4995, x.pageOf(-1, 0, 1));
        Check.same("debts that come to 0", 0, x.pageOf(-1, 3, 1));
        Check.same("with two entries", 2, x.pageOf(-1, 3, 0));
        Check.same("the sum of an empty page", 0, x.pageOf(-1, 1, 1));
        Check.same("the sum at the beginning", 0, x.pageOf(0, 0, 1));
    }

    private static void promise9SheetsAndEvenings() {
        Check.promise(9, "`what`: 0 for its entries, 1 for the sum of its debts, 2 for its sheet, 3 for how many kept"
            + " evenings have this sheet for it, 4 for the different people on it");
        EveningLedger x = Look.fullOfEvenings();
        Check.same("all evenings have the first sheet", 12, x.pageOf(-1, 0, 3));
        Check.same("asked about an evening", 12, x.pageOf(5, 7, 3));
        x.write(0, 0, 'a', 1);
        Check.same("none has that of now", 0, x.pageOf(-1, 0, 3));
        Check.same("its number", 8, x.pageOf(-1, 0, 2));
        Check.same("now is not counted", 12, x.pageOf(11, 0, 3));
        Check.same("the number then", 0, x.pageOf(11, 0, 2));
        Check.same("the last one of the first sheets", 7, x.pageOf(11, 7, 2));
        x.forget(0);
        Check.same("a forgotten one is not counted", 11, x.pageOf(11, 0, 3));
        x.evening();
        Check.same("the latest has it alone, and now", 1, x.pageOf(12, 0, 3));
        x.takeOver(0, 1);
        Check.same("now has that of many", 11, x.pageOf(-1, 0, 3));
        Check.same("the latest has it alone", 1, x.pageOf(12, 0, 3));
    }

    private static void promise9People() {
        Check.promise(9, "`what`: 0 for its entries, 1 for the sum of its debts, 2 for its sheet, 3 for how many kept"
            + " evenings have this sheet for it, 4 for the different people on it");
        EveningLedger x = new EveningLedger();
        Check.same("nobody", 0, x.pageOf(-1, 0, 4));
        x.write(0, 0, 'a', 1);
        Check.same("the first person at the first place", 1, x.pageOf(-1, 0, 4));
        x.write(7, 5, 'j', 1);
        Check.same("the last person at the last place", 1, x.pageOf(-1, 7, 4));
        Look.fill(x, 3, 'b', 1);
        Check.same("one with six entries", 1, x.pageOf(-1, 3, 4));
        for (int place = 0; place < 6; place++) {
            x.write(4, place, (char) ('e' + place), -1);
        }
        Check.same("six with one each", 6, x.pageOf(-1, 4, 4));
        Check.same("those of the next page do not count", 1, x.pageOf(-1, 3, 4));
        Check.same("nor those of the page ahead", 0, x.pageOf(-1, 5, 4));
        x.strike(4, 0);
        Check.same("five", 5, x.pageOf(-1, 4, 4));
        x.evening();
        x.strike(3, 0);
        Check.same("with five entries still", 1, x.pageOf(-1, 3, 4));
        x.strike(0, 0);
        Check.same("then", 1, x.pageOf(1, 0, 4));
        Check.same("now", 0, x.pageOf(-1, 0, 4));
        x.write(5, 0, 'a', 5);
        x.write(5, 1, 'a', -5);
        Check.same("one whose debts come to 0", 1, x.pageOf(-1, 5, 4));
    }

    private static void promise9NoSuchThing() {
        Check.promise(9, NO_EVENING);
        Edges.evenings((x, evening) -> x.pageOf(evening, 7, 0));
        Check.promise(9, "Throws `IllegalArgumentException` if there is no such page, or what is not 0 to 4");
        Edges.pages(Check.ARGUMENT, (x, page) -> x.pageOf(2, page, 4));
        Edges.right("what", Check.ARGUMENT, (x, what) -> x.pageOf(2, 7, what), 0, 4);
        Edges.wrong("what", Check.ARGUMENT, (x, what) -> x.pageOf(2, 7, what),
            Integer.MIN_VALUE, -1, 5, Integer.MAX_VALUE);
        Check.order();
        Check.leaves("evening and page", Look::busy, Check.INDEX, x -> x.pageOf(1, 8, 0));
        Check.leaves("evening and what", Look::busy, Check.INDEX, x -> x.pageOf(3, 0, 5));
    }
}
