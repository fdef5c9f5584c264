/** Promises 17 to 23. */
final class DebtsTest {
    public static void main(String[] arguments) {
        promise17Debt();
        promise18DebtAgain();
        promise19GreatestOn();
        promise20Without();
        promise21Owing();
        promise22Greatest();
        promise23Find();
        Check.finish();
    }

    private static void promise17Debt() {
        EveningLedger x = Look.after("00a999;75a999;30a~1;31b7;e;00-", "75-;75a~999");
        Check.same("then", 1997, x.debt(1, 'a'));
        Check.same("now", -1000, x.debt(-1, 'a'));
        Check.same("at the beginning", 0, x.debt(0, 'a'));
        Check.same("another person", 7, x.debt(-1, 'b'));
        Check.same("one without entries", 0, x.debt(-1, 'j'));
        Check.fails("no such evening ahead of the person", Check.INDEX, () -> x.debt(2, 'k'));
        Check.fails("evening -2", Check.INDEX, () -> x.debt(-2, 'a'));
        Check.fails("person k", Check.ARGUMENT, () -> x.debt(0, 'k'));
        Check.fails("person `", Check.ARGUMENT, () -> x.debt(0, '`'));
    }

    private static void promise18DebtAgain() {
        EveningLedger x = Look.after("0+a5;1+b6;e;0+a~9;e;1+a100;00-;e", "t0@1;2+c3;f0;f2");
        for (int evening : new int[] {1, 3, -1}) {
            for (char person = 'a'; person <= 'j'; person++) {
                Check.same(person + " on " + evening, x.debt(evening, person), x.debtAgain(evening, person));
            }
        }
        Check.same("on the earliest one", 5, x.debtAgain(1, 'a'));
        Check.same("behind a gap", 91, x.debtAgain(3, 'a'));
        Check.same("now", 105, x.debtAgain(-1, 'a'));
        Check.fails("a forgotten evening ahead of the person", Check.INDEX, () -> x.debtAgain(2, 'k'));
        Check.fails("evening -2", Check.INDEX, () -> x.debtAgain(-2, 'a'));
        Check.fails("person k", Check.ARGUMENT, () -> x.debtAgain(1, 'k'));
        Check.fails("person `", Check.ARGUMENT, () -> x.debtAgain(1, '`'));
    }

    private static void promise19GreatestOn() {
        EveningLedger x = Look.after("0+a5;0+b~5;e;00-;e;1+a5;e;2+a3", "0+c1;e;30a2;20-;e;30-;e;20a9");
        Check.same("of several the latest one", 4, x.greatestOn('a'));
        Check.same("below 0 the beginning", 0, x.greatestOn('b'));
        Check.same("the same on all", 6, x.greatestOn('j'));
        Check.same("the same on the latest ones", 6, x.greatestOn('c'));
        x.forget(4);
        Check.same("then the next one", 5, x.greatestOn('a'));
        x.forget(5);
        Check.same("now does not count", 6, x.greatestOn('a'));
        x.forget(0);
        Check.same("all below 0", 6, x.greatestOn('b'));
        Check.fails("person k", Check.ARGUMENT, () -> x.greatestOn('k'));
        Check.fails("person `", Check.ARGUMENT, () -> x.greatestOn('`'));
    }

    private static void promise20Without() {
        EveningLedger x = Look.after("0+a5;0+a~5;e;00-;01-;e;75a1;e;0+b1");
        Check.same("a debt of 0 in two entries is one with entries", 2, x.without('a'));
        x.forget(2);
        Check.same("then the next one", 0, x.without('a'));
        Check.same("now does not count", 3, x.without('b'));
        x.forget(0);
        Check.fails("none", Check.ELEMENT, () -> x.without('a'));
        x.strike(7, 5);
        Check.fails("none but now", Check.ELEMENT, () -> x.without('a'));
        Check.fails("person k", Check.ARGUMENT, () -> x.without('k'));
        Check.fails("person `", Check.ARGUMENT, () -> x.without('`'));
    }

    private static void promise21Owing() {
        EveningLedger x = Look.after("00j9;75j1;10c10;20a~3;21b5;22b~5;30d~3;e", "20-;10-");
        String then = order(x, 1);
        Check.same("the greatest first, then by letters", "cjbad", then);
        Check.same("now", "jbd", order(x, -1));
        Check.same("at the beginning", "", order(x, 0));
        EveningLedger y = Look.after("00a9;75b1;e;00-;00a1;75-;75b9");
        Check.same("then", "ab", order(y, 1));
        Check.same("the other way round now", "ba", order(y, -1));
        Check.fails("place -1", Check.ELEMENT, () -> x.owing(1, -1));
        Check.fails("no such evening ahead of the place", Check.INDEX, () -> x.owing(2, -1));
        Check.fails("evening -2", Check.INDEX, () -> x.owing(-2, 0));
    }

    private static String order(EveningLedger x, int evening) {
        StringBuilder people = new StringBuilder();
        for (int place = 0; place < 11; place++) {
            Object person = owing(x, evening, place);
            if (person.equals("throws " + Check.ELEMENT.getName())) {
                break;
            }
            people.append(person);
        }
        return people.toString();
    }

    private static Object owing(EveningLedger x, int evening, int place) {
        return Check.answer(() -> x.owing(evening, place));
    }

    private static void promise22Greatest() {
        EveningLedger x = Look.after("75a7;00b7;04c7;10d~1;11e999;73f7;e", "11-");
        int[] then = {11, 0, 4, 73, 75, 10};
        for (int place = 0; place < then.length; place++) {
            Check.same("greatest then, " + place, then[place], x.greatest(1, place));
        }
        Check.fails("behind the last one", Check.ELEMENT, () -> x.greatest(1, 6));
        Check.same("greatest now", 0, x.greatest(-1, 0));
        Check.same("least now", 10, x.greatest(-1, 4));
        Check.fails("one less now", Check.ELEMENT, () -> x.greatest(-1, 5));
        Check.fails("place -1", Check.ELEMENT, () -> x.greatest(1, -1));
        Check.fails("at the beginning", Check.ELEMENT, () -> x.greatest(0, 0));
        Check.fails("no such evening ahead of the place", Check.INDEX, () -> x.greatest(2, -1));
        Check.fails("evening -2", Check.INDEX, () -> x.greatest(-2, 0));
    }

    private static void promise23Find() {
        EveningLedger x = Look.after("75a7;34b1;33b~1;43b9;e;33-", "00a1");
        Check.same("the first one then", 33, x.find(1, 'b'));
        Check.same("the first one now", 34, x.find(-1, 'b'));
        Check.same("the last place", 75, x.find(1, 'a'));
        Check.same("the first place", 0, x.find(-1, 'a'));
        Check.fails("none", Check.ELEMENT, () -> x.find(-1, 'c'));
        Check.fails("none at the beginning", Check.ELEMENT, () -> x.find(0, 'a'));
        Check.fails("person k", Check.ARGUMENT, () -> x.find(0, 'k'));
        Check.fails("person `", Check.ARGUMENT, () -> x.find(0, '`'));
        Check.fails("no such evening ahead of the person", Check.INDEX, () -> x.find(2, 'k'));
        Check.fails("evening -2", Check.INDEX, () -> x.find(-2, 'a'));
    }
}
