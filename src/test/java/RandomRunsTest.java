import java.lang.reflect.InvocationTargetException;
import java.lang.reflect.Method;
import java.util.ArrayDeque;
import java.util.Arrays;
import java.util.HashMap;
import java.util.Map;
import java.util.Random;

/** Runs of drawn calls, each of which the class and the model have to answer alike; the seeds are always the same. */
final class RandomRunsTest {
    private static final int RUNS = 3000;
    private static final int CALLS = 512;
    private static final Map<String, Method> OF_LEDGER = methodsOf(EveningLedger.class);
    private static final Map<String, Method> OF_MODEL = methodsOf(LedgerModel.class);
    private static final String[] QUESTIONS = {
        "personAt", "debtAt", "pageOf", "keptAt", "sheetsApart", "placesApart", "isLike", "debt",
        "debtAgain", "greatestOn", "without", "owing", "greatest", "find", "tell", "show", "character",
        "meanDebt", "aloneShare", "account", "errorPosition", "reason"};

    private final Random random;
    private final boolean isBold;
    private final EveningLedger ledger = new EveningLedger();
    private final LedgerModel model = new LedgerModel();
    private final ArrayDeque<String> told = new ArrayDeque<>();
    private int calls = 0;

    private RandomRunsTest(int seed) {
        random = new Random(seed);
        isBold = seed % 4 == 0;
    }

    public static void main(String[] arguments) {
        for (int seed = 0; seed < RUNS; seed++) {
            if (!new RandomRunsTest(seed).goesWell()) {
                System.exit(1);
            }
        }
        System.out.println(RUNS + " runs are alike");
    }

    private static Map<String, Method> methodsOf(Class<?> owner) {
        Map<String, Method> methods = new HashMap<>();
        for (Method method : owner.getDeclaredMethods()) {
            if (java.lang.reflect.Modifier.isPublic(method.getModifiers())) {
                methods.put(method.getName(), method);
            }
        }
        return methods;
    }

    private boolean goesWell() {
        while (calls < CALLS) {
            boolean isAlike = random.nextInt(3) > 0 ? question() : change();
            if (!isAlike) {
                told.forEach(System.out::println);
                return false;
            }
        }
        return true;
    }

    private boolean isAlike(String name, Object... arguments) {
        if (calls >= CALLS) {
            return true;
        }
        calls++;
        Object got = answer(OF_LEDGER.get(name), ledger, arguments);
        Object due = answer(OF_MODEL.get(name), model, arguments);
        told.add(name + Arrays.toString(arguments) + " answered " + got + ", due is " + due);
        return due.equals(got);
    }

    private static Object answer(Method method, Object owner, Object... arguments) {
        try {
            return method.invoke(owner, arguments);
        } catch (InvocationTargetException thrown) {
            return thrown.getCause().getClass().getName();
        } catch (IllegalAccessException thrown) {
            throw new IllegalStateException(thrown);
        }
    }

    private int number(int lowest, int highest) {
        int wide = random.nextInt(isBold ? 12 : 60) == 0 ? 2 : 0;
        if (wide > 0 && random.nextInt(6) == 0) {
            return random.nextInt();
        }
        return lowest - wide + random.nextInt(highest - lowest + 1 + 2 * wide);
    }

    private int page() {
        return random.nextInt(3) == 0 ? number(0, 7) : number(0, 2);
    }

    private int place() {
        return number(0, 5);
    }

    private int evening() {
        int kept = model.account(1);
        int drawn = random.nextInt(kept + 1);
        return random.nextInt(12) == 0 ? number(-1, model.account(0)) : drawn == kept ? -1 : model.keptAt(drawn);
    }

    private char person() {
        return (char) (random.nextInt(3) == 0 ? number('a', 'j') : number('a', 'd'));
    }

    private int debt() {
        int drawn = random.nextInt(4);
        return drawn == 0 ? number(-999, 999) : drawn == 1 ? number(985, 999) : number(-6, 6);
    }

    private boolean question() {
        String name = QUESTIONS[random.nextInt(QUESTIONS.length)];
        switch (name) {
            case "personAt":
            case "debtAt":
                return isAlike(name, evening(), page(), place());
            case "pageOf":
                return isAlike(name, evening(), page(), number(0, 4));
            case "isLike":
                return isAlike(name, evening(), evening(), page());
            case "sheetsApart":
            case "placesApart":
                return isAlike(name, evening(), evening());
            case "debt":
            case "debtAgain":
            case "find":
                return isAlike(name, evening(), person());
            case "greatestOn":
            case "without":
                return isAlike(name, person());
            case "tell":
                return isAlike(name, evening(), page()) && isAlike("character", number(0, 20));
            case "show":
                return isAlike(name, evening()) && isAlike("character", number(0, 24));
            case "owing":
                return isAlike(name, evening(), number(0, 5));
            case "greatest":
                return isAlike(name, evening(), number(0, 12));
            case "meanDebt":
                return isAlike(name, evening());
            case "aloneShare":
            case "errorPosition":
                return isAlike(name);
            case "reason":
                return isAlike(name, random.nextBoolean());
            case "account":
                return isAlike(name, number(0, 11));
            case "character":
                return isAlike(name, number(0, 30));
            default:
                return isAlike(name, number(0, model.account(1)));
        }
    }

    private boolean change() {
        switch (random.nextInt(18)) {
            case 0:
            case 1:
                return isAlike("write", page(), place(), person(), debt());
            case 2:
            case 3:
            case 4:
                return isAlike("add", page(), person(), debt());
            case 5:
            case 6:
                return isAlike("owe", page(), place(), debt());
            case 7:
                return isAlike("owe", page(), place(), -model.debtAt(-1, random.nextInt(8), random.nextInt(6)));
            case 8:
                return isAlike("strike", page(), place());
            case 9:
                return isAlike("swap", page(), place(), place());
            case 10:
                return isAlike("evening");
            case 11:
                return isAlike("takeOver", page(), evening());
            case 12:
                return isAlike("forget", evening());
            case 13:
                return isAlike("undo");
            case 14:
                return isAlike("save");
            case 15:
                return random.nextInt(3) > 0 || isAlike("restore");
            default:
                return text();
        }
    }

    private boolean text() {
        StringBuilder text = new StringBuilder(command());
        while (random.nextInt(3) > 0) {
            text.append(';').append(command());
        }
        if (random.nextInt(4) == 0) {
            spoil(text);
        }
        for (int index = 0; index < text.length(); index++) {
            if (!isAlike("append", text.charAt(index))) {
                return false;
            }
        }
        return isAlike("read") && isAlike("account", 11);
    }

    private void spoil(StringBuilder text) {
        String signs = "09afet@~-+; z!";
        char sign = signs.charAt(random.nextInt(signs.length()));
        int index = random.nextInt(text.length());
        switch (random.nextInt(4)) {
            case 0:
                text.insert(index, sign);
                break;
            case 1:
                text.deleteCharAt(index);
                break;
            case 2:
                text.setLength(index);
                break;
            default:
                text.setCharAt(index, sign);
                break;
        }
    }

    private String command() {
        char person = random.nextInt(30) == 0 ? 'k' : (char) ('a' + random.nextInt(10));
        String debt = (random.nextBoolean() ? "~" : "") + random.nextInt(random.nextInt(10) == 0 ? 1000 : 9);
        switch (random.nextInt(8)) {
            case 0:
                return "e";
            case 1:
                return "t" + digit(2) + "@" + Math.max(0, evening()) % 1000;
            case 2:
                return "f" + Math.max(0, evening()) % 1000;
            case 3:
                return digit(2) + digit(5) + "-";
            case 4:
            case 5:
                return digit(2) + digit(5) + person + debt;
            default:
                return digit(2) + "+" + person + debt;
        }
    }

    private String digit(int highest) {
        return "" + (random.nextInt(25) == 0 ? random.nextInt(10) : random.nextInt(highest + 1));
    }
}
