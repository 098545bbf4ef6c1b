import java.lang.reflect.Constructor;
import java.lang.reflect.Field;
import java.lang.reflect.Method;
import java.lang.reflect.Modifier;
import java.nio.file.Files;
import java.nio.file.Path;
import java.util.Arrays;
import java.util.List;
import java.util.Set;
import java.util.TreeSet;

/** The face of the document, and what of LANGUAGE.md can be seen without much effort. */
public final class FaceTest {
    private static final Checks CHECKS = new Checks("FaceTest");
    private static final List<String> FACE = List.of("int type(int)", "int clearText()", "int load()",
            "int faultKind()", "int addPoint(int)", "int movePoint(int,int)", "int dropPoint(int)",
            "int add(int,int)", "int drop(int)", "int setTolerance(int,int,int)", "int setChain(int,int)",
            "int setLeast(int,int)", "int setLetter(int)", "int setArrow(int)", "int point(int,int)",
            "int dimension(int,int)", "int at(int,int)", "int distance(int,int,boolean)",
            "int ifExact(int,int,int)", "int critical(int,int)", "int needed()", "int chain(int,int)",
            "int ifArrow(int)", "int undo()", "int count(int)", "long digest()");

    public static void main(String[] args) throws Exception {
        constants();
        members();
        classesInside();
        wordsOfTheSource();
        CHECKS.finish();
    }

    private static void constants() {
        CHECKS.due("BAD", DimensionLines.BAD, -1);
        CHECKS.due("STATE", DimensionLines.STATE, -2);
        CHECKS.due("FULL", DimensionLines.FULL, -3);
        CHECKS.due("NONE", DimensionLines.NONE, -999);
    }

    private static String signature(Method method) {
        StringBuilder text = new StringBuilder(method.getReturnType().getSimpleName());
        text.append(' ').append(method.getName()).append('(');
        String separator = "";
        for (Class<?> type : method.getParameterTypes()) {
            text.append(separator).append(type.getSimpleName());
            separator = ",";
        }
        return text.append(')').toString();
    }

    private static void members() {
        Class<?> face = DimensionLines.class;
        CHECKS.holds("public and final", Modifier.isPublic(face.getModifiers()) && Modifier.isFinal(face.getModifiers()));
        Set<String> found = new TreeSet<>();
        Set<String> names = new TreeSet<>();
        for (Method method : face.getDeclaredMethods()) {
            if (!Modifier.isPrivate(method.getModifiers())) {
                CHECKS.due("modifiers of " + method, method.getModifiers(), Modifier.PUBLIC);
                found.add(signature(method));
                names.add(method.getName());
            }
        }
        CHECKS.holds("the methods of the face: " + found, found.equals(new TreeSet<>(FACE)));
        for (Class<?> type : everyClass()) {
            for (Method method : type.getDeclaredMethods()) {
                boolean own = type == face && Modifier.isPublic(method.getModifiers());
                CHECKS.holds("no other method has a public name: " + method, own || !names.contains(method.getName()));
            }
        }
        Set<String> constants = new TreeSet<>();
        for (Field field : face.getDeclaredFields()) {
            if (!Modifier.isPrivate(field.getModifiers())) {
                constants.add(Modifier.toString(field.getModifiers()) + " " + field.getName());
            }
        }
        CHECKS.holds("the constants of the face: " + constants, constants.equals(new TreeSet<>(List.of(
                "public static final BAD", "public static final STATE", "public static final FULL",
                "public static final NONE"))));
        Constructor<?>[] constructors = face.getDeclaredConstructors();
        CHECKS.due("constructors", constructors.length, 1);
        CHECKS.holds("the constructor", Modifier.isPublic(constructors[0].getModifiers())
                && constructors[0].getParameterCount() == 0);
    }

    private static List<Class<?>> everyClass() {
        List<Class<?>> all = new java.util.ArrayList<>(Arrays.asList(DimensionLines.class.getDeclaredClasses()));
        all.add(DimensionLines.class);
        return all;
    }

    private static void classesInside() {
        CHECKS.holds("at most twelve classes", everyClass().size() <= 12);
        for (Class<?> type : everyClass()) {
            int fields = 0;
            for (Field field : type.getDeclaredFields()) {
                boolean isStatic = Modifier.isStatic(field.getModifiers());
                fields += isStatic ? 0 : 1;
                CHECKS.holds("a static field is final: " + field, !isStatic || Modifier.isFinal(field.getModifiers()));
            }
            CHECKS.holds("at most twenty fields: " + type, fields <= 20);
            for (Method method : type.getDeclaredMethods()) {
                CHECKS.holds("at most seven parameters: " + method, method.getParameterCount() <= 7);
                CHECKS.holds("not of Object: " + method,
                        !List.of("equals", "hashCode", "toString").contains(method.getName()));
            }
            if (type != DimensionLines.class) {
                CHECKS.holds("static, and not public: " + type, Modifier.isStatic(type.getModifiers())
                        && !Modifier.isPublic(type.getModifiers()) && !Modifier.isProtected(type.getModifiers()));
            }
        }
    }

    private static void wordsOfTheSource() throws Exception {
        String source = Files.readString(Path.of("src/main/java/DimensionLines.java"));
        String code = source.replaceAll("(?s)/\\*.*?\\*/", " ").replaceAll("//[^\n]*", " ");
        for (String word : List.of("throw", "throws", "try", "catch", "finally", "synchronized", "assert",
                "package", "System\\.out", "System\\.exit", "static \\{", "Random", "Thread", "Exact\\(")) {
            CHECKS.holds("without " + word, !code.matches("(?s).*\\b" + word + "(?![A-Za-z]).*"));
        }
        CHECKS.holds("without lambdas", !code.replaceAll("(case [^;:{}]*|default )->", "").contains("->"));
        CHECKS.holds("without method references", !code.contains("::"));
        CHECKS.holds("without other imports than rule 4 lets stand", !code.replaceAll(
                "import java\\.util\\.(Arrays|ArrayList|List|Iterator);", "").contains("import "));
        // rule 4 lets Arrays.fill stand over arrays of numbers alone
        CHECKS.holds("no row of boolean is filled", !code.matches("(?s).*Arrays\\.fill\\([^;]*(true|false)\\).*"));
    }
}
