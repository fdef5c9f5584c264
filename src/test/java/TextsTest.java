/** Promises 30 to 33. */
final class TextsTest {
    public static void main(String[] arguments) {
        promise30Append();
        promise31Read();
        promise31ReadAllOrNothing();
        promise31ReadWhatIsNot();
        promise31ReadWhatIsRefused();
        promise31TheFirstOneDecides();
        promise31LongTexts();
        promise32ErrorPosition();
        promise32ErrorPositionStays();
        promise33Reason();
        Check.finish();
    }

    private static void promise30Append() {
        EveningLedger x = new EveningLedger();
        Check.same("a blank", 1, x.append(' '));
        Check.same("the last sign", 2, x.append('~'));
        Check.fails("31", Check.ARGUMENT, () -> x.append((char) 31));
        Check.fails("127", Check.ARGUMENT, () -> x.append((char) 127));
        Check.fails("65535", Check.ARGUMENT, () -> x.append((char) 65535));
        for (int length = 3; length <= 60; length++) {
            Check.same("length", length, x.append('e'));
        }
        Check.failsCleanly("a 61st one", x, Check.STATE, () -> x.append('e'));
        Check.fails("its code is looked at first", Check.ARGUMENT, () -> x.append((char) 31));
        Check.same("the input", 60, x.account(10));
        Check.same("no change", 0, x.account(11));
    }

    private static void promise31Read() {
        EveningLedger x = new EveningLedger();
        Check.same("write, add and strike", 5, Look.read(x, "05j999;0+a~007;0+b10;01-;7+c1"));
        Check.same("page 0", "a-7 . . . . j999", Look.told(x, -1, 0));
        Check.same("page 7", "c1 . . . . .", Look.told(x, -1, 7));
        Check.same("one change", 1, x.account(11));
        Check.same("the input is empty", 0, x.account(10));
        Check.same("evening, take over and forget", 4, Look.read(x, "e;t0@000;e;f1"));
        Check.same("the latest", 2, x.account(0));
        Check.same("page 0 then", ". . . . . .", Look.told(x, 2, 0));
        Check.fails("it is forgotten", Check.INDEX, () -> x.show(1));
        Check.same("back", 1, x.undo());
        Check.same("all of it", 0, x.account(0));
        Check.same("one command", 1, Look.read(x, "e"));
        Check.same("accounts of what texts did", 4, x.account(7));
        Check.same("struck out by a text", 1, x.account(8));
    }

    private static void promise31ReadAllOrNothing() {
        EveningLedger x = Look.after("00a1;e;00-");
        for (String text : new String[] {"00b2;e;f1;01-", "00b2;t0@0;81a1", "00b2;e;e;x"}) {
            String before = Look.at(x).replaceAll(" error .*", "");
            Look.read(x, text);
            Check.same("after " + text, before, Look.at(x).replaceAll(" error .*", ""));
        }
        Check.same("nothing of them is remembered", 0, x.undo());
    }

    private static void promise31ReadWhatIsNot() {
        EveningLedger x = Look.after("00a1;e");
        String not = "throws " + Check.STATE.getName();
        String[] texts = {"80a1", "90a1", "06a1", "09a1", "00k1", "11z1", "00a0", "11a~0", "11a000", "8+a1", "0+k1",
            "0+a0", "0+a~000", "80-", "06-", "t8@0", "t0@2", "t0@999", "f2", "f999"};
        for (String text : texts) {
            Check.same(text, not, Look.read(x, text));
            Check.same("the input after " + text, 0, x.account(10));
        }
        Check.same("nothing was changed", 1, x.account(11));
        Check.fails("no reason is kept by that", Check.ELEMENT, () -> x.reason(false));
        Check.fails("no error position is kept by that", Check.ELEMENT, x::errorPosition);
    }

    private static void promise31ReadWhatIsRefused() {
        EveningLedger x = Look.after("00a1;0+b~77;0+a1;0+a1;0+a1;0+a1");
        refused(x, "01b2", 2, -77);
        refused(x, "0+a1", 7, 6);
        refused(x, "14-", 3, 4);
        refused(x, "t3@0", 6, 3);
        refused(x, "f0", 5, 0);
        refused(x, "e;e;e;f2;f3", 5, 3);
        refused(x, "e;e;e;e;e;e;e;e;e;e;e;e", 1, 12);
        refused(x, "e;t0@1", 6, 8);
        refused(x, "e;00-;01-;00-", 3, 0);
        Check.same("eleven evenings", 11, Look.read(x, "e;e;e;e;e;e;e;e;e;e;e"));
        Check.same("kept", 12, x.account(1));
    }

    private static void refused(EveningLedger x, String text, int reason, int detail) {
        Check.same(text, "throws " + Check.REFUSED.getName(), Look.read(x, text));
        Check.same("the reason of " + text, reason, x.reason(false));
        Check.same("the detail of " + text, detail, x.reason(true));
        Check.same("the input after " + text, 0, x.account(10));
    }

    private static void promise31TheFirstOneDecides() {
        EveningLedger x = new EveningLedger();
        String malformed = "throws " + Check.ARGUMENT.getName();
        String not = "throws " + Check.STATE.getName();
        String refused = "throws " + Check.REFUSED.getName();
        Check.same("malformed ahead of all", malformed, Look.read(x, "00-;80a1;!"));
        Check.fails("no reason by that", Check.ELEMENT, () -> x.reason(false));
        Check.same("what is not, then a refusal", not, Look.read(x, "80a1;00-"));
        Check.same("a refusal, then what is not", refused, Look.read(x, "00-;80a1"));
        Check.same("an evening comes ahead of it", 2, Look.read(x, "e;f0"));
        Check.same("an evening that was forgotten", not, Look.read(x, "e;f1;t0@1"));
        Check.same("in a place that is taken, but a debt of 0", not, Look.read(x, "00a1;00a0"));
        Check.same("in a place that is taken", refused, Look.read(x, "00a1;00a1"));
    }

    private static void promise31LongTexts() {
        EveningLedger x = new EveningLedger();
        Check.same("60 characters", 13, Look.read(x, "00a1;01a1;02a1;03a1;04a1;05a1;10a1;11a1;12a1;e;f0;00-;t0@001"));
        EveningLedger y = new EveningLedger();
        Look.input(y, "e;".repeat(30));
        Check.fails("a semicolon at the end of the buffer", Check.ARGUMENT, y::read);
        Check.same("its error position", 60, y.errorPosition());
    }

    private static void promise32ErrorPosition() {
        EveningLedger x = new EveningLedger();
        Check.fails("at first", Check.ELEMENT, x::errorPosition);
        Object[][] texts = {
            {"", 0}, {";", 0}, {" e", 0}, {"E", 0}, {"a", 0}, {"-", 0}, {"~1", 0}, {"+a1", 0}, {"@1", 0},
            {"0", 1}, {"0x", 1}, {"0-", 1}, {"0@", 1}, {"00", 2}, {"00+", 2}, {"000", 2}, {"00A1", 2},
            {"00{", 2}, {"00`", 2}, {"00-1", 3}, {"00--", 3}, {"00a", 3}, {"00ab", 3}, {"00a-1", 3},
            {"00a~", 4}, {"00a~~1", 4}, {"00a~1234", 7}, {"00a1234", 6}, {"0+", 2}, {"0+1", 2}, {"0+a", 3},
            {"0+a;", 3}, {"0+a1 ", 4}, {"0++", 2}, {"e1", 1}, {"ee", 1}, {"e;", 2}, {"e;;", 2}, {"e; e", 2},
            {"t", 1}, {"ta", 1}, {"t@1", 1}, {"t0", 2}, {"t00", 2}, {"t0@", 3}, {"t0@~1", 3}, {"t0@1234", 6},
            {"f", 1}, {"f~1", 1}, {"f-", 1}, {"f1234", 4}, {"f1;00a1;t7@12;x", 14}};
        for (Object[] text : texts) {
            Check.same("\"" + text[0] + "\"", "throws " + Check.ARGUMENT.getName(), Look.read(x, (String) text[0]));
            Check.same("the error position of \"" + text[0] + "\"", text[1], x.errorPosition());
        }
        Check.same("nothing was changed", 0, x.account(11));
        Check.same("the input is empty", 0, x.account(10));
    }

    private static void promise32ErrorPositionStays() {
        EveningLedger x = new EveningLedger();
        x.save();
        Look.read(x, "00a!");
        Look.read(x, "00-");
        Look.read(x, "99-");
        Look.read(x, "e");
        x.undo();
        x.restore();
        Check.same("the error position", 3, x.errorPosition());
        Look.read(x, "f");
        Check.same("the next one", 1, x.errorPosition());
    }

    private static void promise33Reason() {
        EveningLedger x = new EveningLedger();
        Check.fails("at first", Check.ELEMENT, () -> x.reason(false));
        Check.fails("its detail", Check.ELEMENT, () -> x.reason(true));
        x.save();
        Check.fails("a refusal", Check.REFUSED, () -> x.strike(0, 5));
        Check.same("its reason", 3, x.reason(false));
        Check.same("its detail", 5, x.reason(true));
        x.add(0, 'a', 1);
        x.undo();
        x.restore();
        Check.same("its reason stays", 3, x.reason(false));
        Check.same("its detail stays", 5, x.reason(true));
        Check.fails("another one", Check.REFUSED, () -> x.forget(0));
        Check.same("the reason that was kept last", 5, x.reason(false));
        Check.same("with a detail of 0", 0, x.reason(true));
    }
}
