/** Promises 24 to 29. */
final class LinesTest {
    public static void main(String[] arguments) {
        promise24Tell();
        promise25Show();
        promise26Character();
        promise27MeanDebt();
        promise28AloneShare();
        promise29Account();
        Check.finish();
    }

    private static void promise24Tell() {
        EveningLedger x = Look.after("60a1;61b~12;63c999;65j~999;e;60-");
        Check.same("then", "a1 b-12 . c999 . j-999", Look.told(x, 1, 6));
        Check.same("now", ". b-12 . c999 . j-999", Look.told(x, -1, 6));
        Check.same("at the beginning", ". . . . . .", Look.told(x, 0, 6));
        Check.fails("no such evening ahead of the page", Check.INDEX, () -> x.tell(2, 8));
        Check.fails("evening -2", Check.INDEX, () -> x.tell(-2, 0));
        Check.fails("page 8", Check.ARGUMENT, () -> x.tell(1, 8));
        Check.fails("page -1", Check.ARGUMENT, () -> x.tell(1, -1));
        Check.same("the line stays", ". . . . . .", Look.line(x));
        Check.same("no change", 1, x.account(11));
    }

    private static void promise25Show() {
        EveningLedger x = Look.after("0+a1;3+a1;e;0+a1;7+a1;e;t0@1");
        Check.same("at the beginning", "0!,1!,2!,3!,4!,5!,6!,7!", Look.shown(x, 0));
        Check.same("then", "8!,1,2,9!,4,5,6,7", Look.shown(x, 1));
        Check.same("the day behind", "10!,1,2,9,4,5,6,11!", Look.shown(x, 2));
        Check.same("now, with an older sheet", "8,1,2,9,4,5,6,11", Look.shown(x, -1));
        x.forget(0);
        Check.same("the earliest one", "8!,1!,2!,9!,4!,5!,6!,7!", Look.shown(x, 1));
        x.forget(1);
        Check.same("what now has alone", "8!,1,2,9,4,5,6,11", Look.shown(x, -1));
        Check.fails("a forgotten evening", Check.INDEX, () -> x.show(1));
        Check.fails("evening -2", Check.INDEX, () -> x.show(-2));
        Check.same("the line stays", "8!,1,2,9,4,5,6,11", Look.line(x));
    }

    private static void promise26Character() {
        EveningLedger x = new EveningLedger();
        Check.fails("at first", Check.ELEMENT, () -> x.character(0));
        x.show(-1);
        Check.same("the first one", '0', x.character(0));
        Check.same("the last one", '7', x.character(14));
        Check.fails("behind it", Check.ELEMENT, () -> x.character(15));
        Check.fails("ahead", Check.ELEMENT, () -> x.character(-1));
        x.tell(0, 0);
        Check.same("in place of the line before", '.', x.character(0));
        Check.fails("of the line before", Check.ELEMENT, () -> x.character(11));
    }

    private static void promise27MeanDebt() {
        EveningLedger x = Look.after("00a1;75b~2;30c5;e;31a7;32b~11");
        Check.same("then", 4.0 / 3.0, x.meanDebt(1));
        Check.same("now", 0.0, x.meanDebt(-1));
        Check.fails("no entries", Check.ARITHMETIC, () -> x.meanDebt(0));
        Check.fails("no such evening", Check.INDEX, () -> x.meanDebt(2));
        Check.fails("evening -2", Check.INDEX, () -> x.meanDebt(-2));
        EveningLedger y = Look.after("00a~1;01a~2;02a~2");
        Check.same("below 0", -5.0 / 3.0, y.meanDebt(-1));
    }

    private static void promise28AloneShare() {
        EveningLedger x = new EveningLedger();
        Check.same("at first", 0f, x.aloneShare());
        x.add(0, 'a', 1);
        Check.same("a copy: both are alone then", 2f / 16f, x.aloneShare());
        x.evening();
        Check.same("the evening has the sheet of now", 1f / 24f, x.aloneShare());
        x.add(0, 'a', 1);
        x.add(5, 'a', 1);
        Check.same("three on page 0, one on page 5", 4f / 24f, x.aloneShare());
        x.forget(0);
        Check.same("one less", 4f / 16f, x.aloneShare());
    }

    private static void promise29Account() {
        EveningLedger x = Look.after("0+a9;0+b~4;e;00-;t0@1;1+c1", "f0");
        x.add(1, 'a', 7);
        x.owe(1, 0, -1);
        Look.input(x, "e;e");
        int[] due = {1, 1, 9, 11, 3, 3, 12, 4, 2, 1, 3, 4};
        for (int account = 0; account < due.length; account++) {
            Check.same("account " + account, due[account], x.account(account));
        }
        Check.fails("account 12", Check.ARGUMENT, () -> x.account(12));
        Check.fails("account -1", Check.ARGUMENT, () -> x.account(-1));
    }
}
