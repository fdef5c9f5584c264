/** Promises 17 to 23, sentence by sentence. */
final class DebtsTest {
    private static final String NO_EVENING = "Throws `IndexOutOfBoundsException` if there is no such evening";
    private static final String NO_PERSON = "Throws `IllegalArgumentException` if there is no such person";
    private static final String NO_PLACE = "Throws `NoSuchElementException` if there is no such place";
    private static final String SECOND_WAY = "Returns the same by a second way: the debt on the earliest kept evening,"
        + " and what became different from evening to evening since.";
    private static final String BY_DEBT = "Returns a person by its debt on an evening: the greatest first, of several"
        + " the lowest letter;";
    private static final String BY_ENTRY = "Returns an entry by its debt on an evening: the greatest first, of several"
        + " that of the lower page, then of the lower place.";
    private static final String PAGE_AND_PLACE = "Returns 10 times the page, and its place.";

    public static void main(String[] arguments) {
        promise17PageByPage();
        promise17AtTheLimits();
        promise17NoSuchThing();
        promise18SecondWay();
        promise18OnAllDays();
        promise18NoSuchThing();
        promise19GreatestOn();
        promise19OfSeveralTheLatest();
        promise19NoSuchThing();
        promise20Without();
        promise20NoSuchThing();
        promise21Owing();
        promise21AllAndNone();
        promise21NoSuchThing();
        promise22Greatest();
        promise22OfSeveral();
        promise22NoSuchThing();
        promise23Find();
        promise23NoSuchThing();
        Check.finish(17, 23);
    }

    private static void promise17PageByPage() {
        Check.promise(17, "Returns the debt of a person on an evening: page by page.");
        EveningLedger x = Look.after("00a999;75a999;30a~1;31b7;33j~8;e;00-", "75-;75a~999");
        Check.same("then", 1997, x.debt(1, 'a'));
        Check.same("now", -1000, x.debt(-1, 'a'));
        Check.same("at the beginning", 0, x.debt(0, 'a'));
        Check.same("another person", 7, x.debt(-1, 'b'));
        Check.same("the last person", -8, x.debt(-1, 'j'));
        Check.same("one without entries", 0, x.debt(-1, 'i'));
        EveningLedger y = new EveningLedger();
        for (int page = 0; page < 8; page++) {
            y.write(page, 5 - page % 6, 'c', 1 << page);
            Check.same("with one page more", (2 << page) - 1, y.debt(-1, 'c'));
        }
    }

    private static void promise17AtTheLimits() {
        Check.promise(17, "Returns the debt.");
        EveningLedger x = Look.filled('a', 999);
        Check.same("the greatest that there is", 48 * 999, x.debt(-1, 'a'));
        Check.same("of the next person", 0, x.debt(-1, 'b'));
        EveningLedger y = Look.filled('j', -999);
        Check.same("the least that there is", -48 * 999, y.debt(-1, 'j'));
        Check.same("of the person ahead", 0, y.debt(-1, 'i'));
        EveningLedger z = Look.after("00a999;01a~999");
        Check.same("that comes to 0", 0, z.debt(-1, 'a'));
    }

    private static void promise17NoSuchThing() {
        Check.promise(17, NO_EVENING);
        Edges.evenings((x, evening) -> x.debt(evening, 'a'));
        Check.promise(17, NO_PERSON);
        Edges.people((x, person) -> x.debt(2, person));
        Check.order();
        Check.leaves("evening and person", Look::busy, Check.INDEX, x -> x.debt(1, 'k'));
    }

    private static void promise18SecondWay() {
        Check.promise(18, SECOND_WAY);
        EveningLedger x = Look.after("0+a5;1+b6;e;0+a~9;e;1+a100;00-;e", "t0@1;2+c3;f0;f2");
        Check.same("on the earliest one, that at the beginning being forgotten", 5, x.debtAgain(1, 'a'));
        Check.same("behind one that is forgotten", 91, x.debtAgain(3, 'a'));
        Check.same("now, with a page that was taken over", 105, x.debtAgain(-1, 'a'));
        Check.promise(18, "Returns the debt.");
        Check.same("that stays the same", 6, x.debtAgain(-1, 'b'));
        Check.same("that is new now", 3, x.debtAgain(-1, 'c'));
        Check.same("that was none then", 0, x.debtAgain(3, 'c'));
        Check.same("of one without entries", 0, x.debtAgain(-1, 'j'));
        EveningLedger y = Look.filled('a', 999);
        Check.same("the greatest that there is", 48 * 999, y.debtAgain(-1, 'a'));
        EveningLedger z = Look.filled('j', -999);
        z.evening();
        Check.same("the least that there is", -48 * 999, z.debtAgain(1, 'j'));
        EveningLedger first = new EveningLedger();
        Check.same("on a new object", 0, first.debtAgain(0, 'a') + first.debtAgain(-1, 'a'));
    }

    private static void promise18OnAllDays() {
        Check.promise(18, SECOND_WAY);
        EveningLedger x = new EveningLedger();
        for (int evening = 1; evening <= 11; evening++) {
            x.write(evening % 8, evening % 6, (char) ('a' + evening % 3), 7 * evening - 30);
            x.add(0, 'b', evening);
            x.strike(0, 0);
            x.evening();
        }
        x.takeOver(3, 4);
        for (int evening = -1; evening <= 11; evening++) {
            for (char person = 'a'; person <= 'c'; person++) {
                Check.same(person + " on " + evening, x.debt(evening, person), x.debtAgain(evening, person));
            }
        }
    }

    private static void promise18NoSuchThing() {
        Check.promise(18, NO_EVENING);
        Edges.evenings((x, evening) -> x.debtAgain(evening, 'a'));
        Check.promise(18, NO_PERSON);
        Edges.people((x, person) -> x.debtAgain(2, person));
        Check.order();
        Check.leaves("evening and person", Look::busy, Check.INDEX, x -> x.debtAgain(1, 'k'));
    }

    private static void promise19GreatestOn() {
        Check.promise(19, "Returns the kept evening on which the debt of a person was the greatest, of several the"
            + " latest one.");
        EveningLedger x = Look.after("00a5;00-;00a7;e;00-;00a9;e;00-;00a8;e", "00-;00a99");
        Check.same("the greatest one, and not now", 2, x.greatestOn('a'));
        x.forget(2);
        Check.same("one that is forgotten does not count", 3, x.greatestOn('a'));
        Check.promise(19, "Returns the evening.");
        EveningLedger y = Look.after("00a~5;e;00-;00a~6;e");
        Check.same("the beginning, without an entry, ahead of debts below 0", 0, y.greatestOn('a'));
        y.forget(0);
        Check.same("the greatest one below 0", 1, y.greatestOn('a'));
        y.evening();
        y.forget(1);
        Check.same("of two that are the same", 3, y.greatestOn('a'));
        EveningLedger z = Look.after("00j1;e;00-;00j2;e;00-;00j1;e");
        Check.same("by 1 more", 2, z.greatestOn('j'));
        Check.same("on the only one", 0, new EveningLedger().greatestOn('a'));
    }

    private static void promise19OfSeveralTheLatest() {
        Check.promise(19, "Returns the kept evening on which the debt of a person was the greatest, of several the"
            + " latest one.");
        EveningLedger x = Look.after("0+a5;e;00-;e;1+a5;e;2+a3", "e;30a2;20-;e;30-;e;20a9");
        Check.same("of two, 4 and 5, behind and ahead of less", 4, x.greatestOn('a'));
        Check.same("of all", 6, x.greatestOn('j'));
        EveningLedger y = Look.after("0+a5;e;e;00-;e");
        Check.same("of two ahead of less", 2, y.greatestOn('a'));
        y.forget(2);
        Check.same("then the other one", 1, y.greatestOn('a'));
        y.forget(1);
        Check.same("then of those without an entry", 3, y.greatestOn('a'));
        Check.same("of 12", 11, Look.fullOfEvenings().greatestOn('e'));
    }

    private static void promise19NoSuchThing() {
        Check.promise(19, NO_PERSON);
        Edges.people((x, person) -> x.greatestOn(person));
    }

    private static void promise20Without() {
        Check.promise(20, "Returns the latest kept evening on which a person had no entry.");
        EveningLedger x = Look.after("0+a5;0+a~5;e;00-;01-;e;75a1;e;0+b1");
        Check.same("debts that come to 0 are entries", 2, x.without('a'));
        Check.same("now does not count", 3, x.without('b'));
        x.forget(2);
        Check.same("then the beginning", 0, x.without('a'));
        Check.promise(20, "Returns the evening.");
        Check.same("of all of 12", 11, Look.fullOfEvenings().without('j'));
        Check.same("the only one", 0, new EveningLedger().without('a'));
        EveningLedger y = Look.after("75j~1;e;75-;e");
        Check.same("the latest one", 2, y.without('j'));
        Check.promise(20, "Throws `NoSuchElementException` if there was none");
        Check.leaves("on the only one", () -> Look.after("00a1;e;f0"), Check.ELEMENT, z -> z.without('a'));
        Check.leaves("on none of two, but now", () -> Look.after("75j1;e;00j1;e;f0;00-;75-"), Check.ELEMENT,
            z -> z.without('j'));
        Check.leaves("with debts that come to 0", () -> Look.after("00b9;01b~9;e;f0"), Check.ELEMENT,
            z -> z.without('b'));
    }

    private static void promise20NoSuchThing() {
        Check.promise(20, NO_PERSON);
        Edges.people((x, person) -> x.without(person));
        Check.order();
        Check.leaves("no person, who never had none", Look::busy, Check.ARGUMENT, x -> x.without('k'));
    }

    private static String order(EveningLedger x, int evening) {
        StringBuilder people = new StringBuilder();
        for (int place = 0; place < 11; place++) {
            Object person = owing(x, evening, place);
            if (person.equals(Check.thrown(Check.ELEMENT))) {
                break;
            }
            people.append(person);
        }
        return people.toString();
    }

    private static Object owing(EveningLedger x, int evening, int place) {
        return Check.answer(() -> x.owing(evening, place));
    }

    private static void promise21Owing() {
        Check.promise(21, BY_DEBT);
        EveningLedger x = Look.after("00j9;75j1;10c10;20a~3;21b5;22b~5;30d~3;e", "20-;10-");
        Check.same("then", "cjbad", order(x, 1));
        Check.same("now", "jbd", order(x, -1));
        Check.promise(21, "people without entries are left out.");
        Check.same("at the beginning", "", order(x, 0));
        EveningLedger y = Look.after("00j~5;01a~6");
        Check.same("debts below 0", "ja", order(y, -1));
        y.write(7, 5, 'e', 1);
        Check.same("one above 0", "eja", order(y, -1));
        y.write(7, 4, 'e', -1);
        Check.same("one that comes to 0", "eja", order(y, -1));
        y.strike(7, 4);
        y.strike(7, 5);
        Check.same("without entries", "ja", order(y, -1));
        Check.promise(21, "Returns the person.");
        Check.same("the first one", 'j', y.owing(-1, 0));
        Check.same("the last one", 'a', y.owing(-1, 1));
    }

    private static void promise21AllAndNone() {
        Check.promise(21, "`place`: the place in that order, from 0");
        EveningLedger x = new EveningLedger();
        for (int index = 0; index < 10; index++) {
            x.add(index / 6, (char) ('a' + index), -7);
        }
        Check.same("all, of several the lowest letter", "abcdefghij", order(x, -1));
        for (int index = 0; index < 10; index++) {
            x.add(2 + index / 6, (char) ('a' + index), index + 1);
        }
        Check.same("all, the greatest first", "jihgfedcba", order(x, -1));
        Check.same("the first one", 'j', x.owing(-1, 0));
        Check.same("the last one", 'a', x.owing(-1, 9));
        Check.fails("behind it", Check.ELEMENT, () -> x.owing(-1, 10));
        EveningLedger y = Look.after("00a999;01a999;02b999;03b998");
        Check.same("more by 1", "ab", order(y, -1));
        y.write(7, 0, 'b', 2);
        Check.same("less by 1", "ba", order(y, -1));
    }

    private static void promise21NoSuchThing() {
        Check.promise(21, NO_EVENING);
        Edges.evenings((x, evening) -> x.owing(evening, 0));
        Check.promise(21, NO_PLACE);
        Edges.right("place", Check.ELEMENT, (x, place) -> x.owing(2, place), 0, 3);
        Edges.wrong("place", Check.ELEMENT, (x, place) -> x.owing(2, place),
            Integer.MIN_VALUE, -1, 4, 10, Integer.MAX_VALUE);
        Check.leaves("nobody", EveningLedger::new, Check.ELEMENT, x -> x.owing(0, 0));
        Check.order();
        Check.leaves("evening and place", Look::busy, Check.INDEX, x -> x.owing(1, -1));
    }

    private static void promise22Greatest() {
        Check.promise(22, BY_ENTRY);
        EveningLedger x = Look.after("75a7;00b7;04c7;10d~1;11e999;73f7;e", "11-");
        int[] then = {11, 0, 4, 73, 75, 10};
        for (int place = 0; place < then.length; place++) {
            Check.same("then, at " + place, then[place], x.greatest(1, place));
        }
        Check.promise(22, PAGE_AND_PLACE);
        Check.same("the greatest now", 0, x.greatest(-1, 0));
        Check.same("the least now", 10, x.greatest(-1, 4));
        Check.fails("one less now", Check.ELEMENT, () -> x.greatest(-1, 5));
        EveningLedger y = Look.after("75j1");
        Check.same("the last place alone", 75, y.greatest(-1, 0));
        y.write(0, 0, 'a', 1);
        Check.same("the first place ahead of it", 0, y.greatest(-1, 0));
        Check.same("the last place behind", 75, y.greatest(-1, 1));
    }

    private static void promise22OfSeveral() {
        Check.promise(22, "`place`: the place in that order, from 0");
        EveningLedger x = Look.filled('a', -999);
        for (int place = 0; place < 48; place++) {
            Check.same("of 48 that are the same", 10 * (place / 6) + place % 6, x.greatest(-1, place));
        }
        Check.fails("behind the last one", Check.ELEMENT, () -> x.greatest(-1, 48));
        x.owe(7, 5, 1);
        Check.same("greater by 1", 75, x.greatest(-1, 0));
        Check.same("then the others", 0, x.greatest(-1, 1));
        Check.same("the last one of them", 74, x.greatest(-1, 47));
        EveningLedger y = Look.after("00a~999;75a999;33a~1;44a1");
        int[] due = {75, 44, 33, 0};
        for (int place = 0; place < due.length; place++) {
            Check.same("above and below 0", due[place], y.greatest(-1, place));
        }
    }

    private static void promise22NoSuchThing() {
        Check.promise(22, NO_EVENING);
        Edges.evenings((x, evening) -> x.greatest(evening, 0));
        Check.promise(22, NO_PLACE);
        Edges.right("place", Check.ELEMENT, (x, place) -> x.greatest(2, place), 0, 3);
        Edges.wrong("place", Check.ELEMENT, (x, place) -> x.greatest(2, place),
            Integer.MIN_VALUE, -1, 4, 48, Integer.MAX_VALUE);
        Check.leaves("no entries", EveningLedger::new, Check.ELEMENT, x -> x.greatest(0, 0));
        Check.order();
        Check.leaves("evening and place", Look::busy, Check.INDEX, x -> x.greatest(1, -1));
    }

    private static void promise23Find() {
        Check.promise(23, "Returns the first entry of a person on an evening, by pages and places.");
        EveningLedger x = Look.after("75a7;34b1;33b~1;43b9;e;33-", "00a1");
        Check.same("the lower place of one page then", 33, x.find(1, 'b'));
        Check.same("the only one of it now", 34, x.find(-1, 'b'));
        x.strike(3, 4);
        Check.same("on the next page then", 43, x.find(-1, 'b'));
        Check.promise(23, PAGE_AND_PLACE);
        Check.same("the last place", 75, x.find(1, 'a'));
        Check.same("the first place", 0, x.find(-1, 'a'));
        EveningLedger y = Look.after("05j1;10j1");
        Check.same("the page ahead of the place", 5, y.find(-1, 'j'));
        y.strike(0, 5);
        Check.same("the first place of the next page", 10, y.find(-1, 'j'));
        Check.promise(23, "Throws `NoSuchElementException` if there is none");
        Check.leaves("none now", Look::busy, Check.ELEMENT, z -> z.find(-1, 'c'));
        Check.leaves("none then", Look::busy, Check.ELEMENT, z -> z.find(2, 'e'));
        Check.leaves("none at the beginning", Look::busy, Check.ELEMENT, z -> z.find(0, 'a'));
        Check.leaves("none on a new object", EveningLedger::new, Check.ELEMENT, z -> z.find(-1, 'j'));
    }

    private static void promise23NoSuchThing() {
        Check.promise(23, NO_EVENING);
        Edges.evenings((x, evening) -> x.find(evening, 'a'));
        Check.promise(23, NO_PERSON);
        Edges.people((x, person) -> x.find(2, person));
        Check.order();
        Check.leaves("evening and person", Look::busy, Check.INDEX, x -> x.find(1, 'k'));
        Check.leaves("no person, who has no entry", Look::busy, Check.ARGUMENT, x -> x.find(0, 'k'));
    }
}
