import java.lang.reflect.Constructor;
import java.lang.reflect.Field;
import java.lang.reflect.Member;
import java.lang.reflect.Method;
import java.lang.reflect.Modifier;
import java.util.Arrays;
import java.util.TreeSet;

/** The class has the document's face, and no other member that can be reached from outside. */
final class FaceTest {
    private static final String[] FACE = {
        "public int add(int,char,int)", "public int write(int,int,char,int)", "public int owe(int,int,int)",
        "public int strike(int,int)", "public int swap(int,int,int)", "public char personAt(int,int,int)",
        "public int debtAt(int,int,int)", "public int pageOf(int,int,int)", "public int evening()",
        "public int takeOver(int,int)", "public int forget(int)", "public int keptAt(int)",
        "public int sheetsApart(int,int)", "public int placesApart(int,int)",
        "public boolean isLike(int,int,int)", "public int debt(int,char)", "public int debtAgain(int,char)",
        "public int greatestOn(char)", "public int without(char)", "public char owing(int,int)",
        "public int greatest(int,int)", "public int find(int,char)", "public int tell(int,int)",
        "public int show(int)", "public char character(int)", "public double meanDebt(int)",
        "public float aloneShare()", "public int account(int)", "public int append(char)",
        "public int read()", "public int errorPosition()", "public int reason(boolean)",
        "public int undo()", "public int save()", "public int restore()"};

    public static void main(String[] arguments) {
        Check.same("the class", "public final", Modifier.toString(EveningLedger.class.getModifiers()));
        Check.same("the constructors", "[public EveningLedger()]", constructors());
        theMethods();
        for (Field field : EveningLedger.class.getDeclaredFields()) {
            isPrivate(field);
        }
        for (Class<?> inside : EveningLedger.class.getDeclaredClasses()) {
            Check.same(inside.getName(), "private static final", Modifier.toString(inside.getModifiers()));
            theMembersInside(inside);
        }
        Check.finish();
    }

    private static String constructors() {
        StringBuilder all = new StringBuilder("[");
        for (Constructor<?> constructor : EveningLedger.class.getDeclaredConstructors()) {
            all.append(constructor);
        }
        return all.append(']').toString();
    }

    private static void theMethods() {
        TreeSet<String> found = new TreeSet<>();
        for (Method method : EveningLedger.class.getDeclaredMethods()) {
            if (Modifier.isPublic(method.getModifiers())) {
                found.add(withoutThrows(method));
            } else {
                isPrivate(method);
                Check.same(method.getName() + " is of the face", false, isOfTheFace(method.getName()));
            }
        }
        Check.same("the public methods", new TreeSet<>(Arrays.asList(FACE)), found);
    }

    /** LANGUAGE.md, rule 1: they are private, and none bears the name of a method of the face. */
    private static void theMembersInside(Class<?> inside) {
        for (Field field : inside.getDeclaredFields()) {
            isPrivate(field);
        }
        for (Method method : inside.getDeclaredMethods()) {
            isPrivate(method);
            Check.same(method.getName() + " is of the face", false, isOfTheFace(method.getName()));
        }
    }

    private static boolean isOfTheFace(String name) {
        return Arrays.stream(FACE).anyMatch(method -> method.contains(" " + name + "("));
    }

    private static String withoutThrows(Method method) {
        return method.toString().replace("EveningLedger.", "").replaceAll(" throws .*", "");
    }

    private static void isPrivate(Member member) {
        Check.same(member.getName() + " is private", true, Modifier.isPrivate(member.getModifiers()));
    }
}
