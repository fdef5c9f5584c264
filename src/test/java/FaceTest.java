import java.io.IOException;
import java.lang.reflect.Constructor;
import java.lang.reflect.Field;
import java.lang.reflect.Member;
import java.lang.reflect.Method;
import java.lang.reflect.Modifier;
import java.nio.file.Files;
import java.nio.file.Path;
import java.util.ArrayList;
import java.util.Arrays;
import java.util.List;
import java.util.Map;
import java.util.TreeSet;
import java.util.regex.Matcher;
import java.util.regex.Pattern;
import java.util.stream.Collectors;

/** The class has the document's face, as it is written there, and no other member that can be reached from outside. */
final class FaceTest {
    private static final Map<Class<?>, String> NAMES = Map.of(Check.INDEX, "INDEX", Check.ARGUMENT, "ARGUMENT",
        Check.STATE, "STATE", Check.REFUSED, "REFUSED", Check.ELEMENT, "ELEMENT", Check.ARITHMETIC, "ARITHMETIC");
    /** The methods with the exceptions that they tell of, in their order, by the names that Check has for them. */
    private static final String[] FACE = {
        "int write(int,int,char,int) INDEX ARGUMENT REFUSED", "int add(int,char,int) INDEX ARGUMENT REFUSED",
        "int owe(int,int,int) INDEX ARGUMENT REFUSED", "int strike(int,int) INDEX REFUSED",
        "int swap(int,int,int) INDEX REFUSED", "char personAt(int,int,int) INDEX ARGUMENT ELEMENT",
        "int debtAt(int,int,int) INDEX ARGUMENT", "int pageOf(int,int,int) INDEX ARGUMENT", "int evening() REFUSED",
        "int takeOver(int,int) INDEX REFUSED", "int forget(int) INDEX REFUSED", "int keptAt(int) ELEMENT",
        "int sheetsApart(int,int) INDEX", "int placesApart(int,int) INDEX",
        "boolean isLike(int,int,int) INDEX ARGUMENT", "int debt(int,char) INDEX ARGUMENT",
        "int debtAgain(int,char) INDEX ARGUMENT", "int greatestOn(char) ARGUMENT",
        "int without(char) ARGUMENT ELEMENT", "char owing(int,int) INDEX ELEMENT",
        "int greatest(int,int) INDEX ELEMENT", "int find(int,char) INDEX ARGUMENT ELEMENT",
        "int tell(int,int) INDEX ARGUMENT", "int show(int) INDEX", "char character(int) ELEMENT",
        "double meanDebt(int) INDEX ARITHMETIC", "float aloneShare()", "int account(int) ARGUMENT",
        "int append(char) ARGUMENT STATE", "int read() ARGUMENT STATE REFUSED", "int errorPosition() ELEMENT",
        "int reason(boolean) ELEMENT", "int undo() ELEMENT", "int save()", "int restore() STATE"};

    private static final Path DOCUMENT = Path.of("..", "shared", "DOC.md");
    private static final Path SOURCE = Path.of("src/main/java/EveningLedger.java");

    public static void main(String[] arguments) throws IOException {
        Check.same("the class", "public final", Modifier.toString(EveningLedger.class.getModifiers()));
        Check.same("the constructors", "[public EveningLedger()]", constructors());
        theMethods();
        for (Field field : EveningLedger.class.getDeclaredFields()) {
            isPrivate(field);
        }
        for (Class<?> inside : EveningLedger.class.getDeclaredClasses()) {
            int modifiers = inside.getModifiers();
            Check.same(inside.getName() + " is static", true, Modifier.isStatic(modifiers));
            Check.same(inside.getName() + " can be reached", false,
                Modifier.isPublic(modifiers) || Modifier.isProtected(modifiers));
            theMembersInside(inside);
        }
        if (Files.exists(DOCUMENT)) {
            theInterfaceAsItIsWritten(Files.readString(DOCUMENT), Files.readString(SOURCE));
            whatStandsAheadOfTheCalls(Files.readString(DOCUMENT), Files.readString(SOURCE));
        }
        Check.finish();
    }

    /** "The public face", with the names of the arguments too, and in its order. */
    private static void theInterfaceAsItIsWritten(String document, String source) {
        String words = source.replaceAll("\\s+", " ");
        String face = document.substring(document.indexOf("## The public face"), document.indexOf("## Terms"));
        int at = 0;
        int written = 0;
        for (String line : face.lines().map(String::strip).filter(line -> line.matches("public .*;")).toList()) {
            int found = words.indexOf(line.replace(";", " {"), at);
            Check.same(line + " stands behind the one ahead", true, found >= 0);
            at = Math.max(at, found);
            written++;
        }
        Check.same("the constructor and the methods that are written there", 1 + FACE.length, written);
    }

    /** Of the terms: "Ahead of the calls .. the interface says: ----" and words. */
    private static void whatStandsAheadOfTheCalls(String document, String source) {
        Matcher said = Pattern.compile("Ahead of the calls (.*) the interface says: (---- .*)\\.").matcher(document);
        int sections = 0;
        while (said.find()) {
            sections++;
            String head = "// " + said.group(2) + "\n";
            int start = source.indexOf(head);
            Check.same("there is " + said.group(2), true, start >= 0);
            String section = start < 0 ? "" : source.substring(start + head.length()).split("// ----")[0];
            Check.same("the calls behind it", namesIn("`(\\w+)`", said.group(1)),
                namesIn("\n    public \\w+ (\\w+)\\(", section));
        }
        Check.same("sections", 4, sections);
    }

    private static List<String> namesIn(String pattern, String text) {
        List<String> names = new ArrayList<>();
        Matcher name = Pattern.compile(pattern).matcher(text);
        while (name.find()) {
            names.add(name.group(1));
        }
        return names;
    }

    private static String constructors() {
        StringBuilder all = new StringBuilder("[");
        for (Constructor<?> constructor : EveningLedger.class.getDeclaredConstructors()) {
            all.append(constructor);
        }
        return all.append(']').toString();
    }

    private static void theMethods() {
        TreeSet<String> found = new TreeSet<>();
        for (Method method : EveningLedger.class.getDeclaredMethods()) {
            if (Modifier.isPublic(method.getModifiers())) {
                found.add(inShort(method));
            } else {
                isPrivate(method);
                Check.same(method.getName() + " is of the face", false, isOfTheFace(method.getName()));
            }
        }
        Check.same("the public methods", new TreeSet<>(Arrays.asList(FACE)), found);
    }

    /** LANGUAGE.md, rule 1: they are private, and none bears the name of a method of the face. */
    private static void theMembersInside(Class<?> inside) {
        for (Field field : inside.getDeclaredFields()) {
            isPrivate(field);
        }
        for (Method method : inside.getDeclaredMethods()) {
            isPrivate(method);
            Check.same(method.getName() + " is of the face", false, isOfTheFace(method.getName()));
        }
    }

    private static boolean isOfTheFace(String name) {
        return Arrays.stream(FACE).anyMatch(method -> method.contains(" " + name + "("));
    }

    private static String inShort(Method method) {
        StringBuilder told = new StringBuilder(method.getReturnType() + " " + method.getName() + "(");
        told.append(Arrays.stream(method.getParameterTypes()).map(Class::getName).collect(Collectors.joining(",")));
        told.append(')');
        for (Class<?> thrown : method.getExceptionTypes()) {
            told.append(' ').append(NAMES.getOrDefault(thrown, thrown.getName()));
        }
        return told.toString();
    }

    private static void isPrivate(Member member) {
        Check.same(member.getName() + " is private", true, Modifier.isPrivate(member.getModifiers()));
    }
}
