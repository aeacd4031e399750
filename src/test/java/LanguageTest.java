import java.lang.reflect.Constructor;
import java.lang.reflect.Field;
import java.lang.reflect.Method;
import java.lang.reflect.Modifier;
import java.util.ArrayList;
import java.util.List;
import java.util.Set;
import java.util.TreeSet;

/** The face of the class and the sizes of its classes, as the machine sees them (LANGUAGE.md, rules 1, 2, 5, 11). */
public final class LanguageTest {
    private static final Checks CHECKS = new Checks("LanguageTest");
    private static final Set<String> FACE = Set.of(
        "int type(int)", "int clear()", "int tables()", "int code(int,int)", "int pair(int,int)",
        "int puts(int,int)", "int cuts(int)", "int appends(int,int)", "int forms(int,int)", "int undo()",
        "int at(int,int)", "int ruled(int,int,int)", "int quick(int,int)", "int same(int,int,int)",
        "int seam(int,int,int,int)", "long spellings(int)", "int pipes(int)", "int unpipe()",
        "int piped(int,int)", "int fixed(int)", "int keep(int)", "int back(int)", "int count(int)");
    private static final int MOST_FIELDS = 20, MOST_CLASSES = 12, MOST_PARAMETERS = 7;

    public static void main(String[] args) {
        constants();
        members();
        for (Class<?> inside : MarkOrder.class.getDeclaredClasses()) {
            classInside(inside);
        }
        CHECKS.end();
    }

    private static void constants() {
        CHECKS.due("BAD", MarkOrder.BAD, -1);
        CHECKS.due("STATE", MarkOrder.STATE, -2);
        CHECKS.due("FULL", MarkOrder.FULL, -3);
        CHECKS.due("NONE", MarkOrder.NONE, -9);
    }

    private static String signOf(Method method) {
        List<String> types = new ArrayList<>();
        for (Class<?> type : method.getParameterTypes()) {
            types.add(type.getName());
        }
        return method.getReturnType().getName() + " " + method.getName() + "(" + String.join(",", types) + ")";
    }

    private static void members() {
        Class<?> face = MarkOrder.class;
        CHECKS.holds("the class is public and final", face.getModifiers() == (Modifier.PUBLIC | Modifier.FINAL));
        Set<String> open = new TreeSet<>();
        for (Method method : face.getDeclaredMethods()) {
            boolean isPrivate = Modifier.isPrivate(method.getModifiers());
            CHECKS.holds("public or private: " + method, isPrivate || method.getModifiers() == Modifier.PUBLIC);
            if (!isPrivate) {
                open.add(signOf(method));
            }
        }
        CHECKS.holds("the face's methods: " + open, open.equals(FACE));
        Constructor<?>[] makers = face.getDeclaredConstructors();
        CHECKS.holds("one constructor", makers.length == 1 && makers[0].getParameterCount() == 0);
        CHECKS.holds("it is public", Modifier.isPublic(makers[0].getModifiers()));
        Set<String> openFields = new TreeSet<>();
        for (Field field : face.getDeclaredFields()) {
            if (!Modifier.isPrivate(field.getModifiers())) {
                openFields.add(field.getName());
            }
        }
        CHECKS.holds("the face's constants", openFields.equals(Set.of("BAD", "STATE", "FULL", "NONE")));
        fields(face);
        CHECKS.holds("few classes", face.getDeclaredClasses().length < MOST_CLASSES);
    }

    private static void classInside(Class<?> inside) {
        int modifiers = inside.getModifiers();
        CHECKS.holds("static: " + inside, Modifier.isStatic(modifiers));
        CHECKS.holds("not open: " + inside, !Modifier.isPublic(modifiers) && !Modifier.isProtected(modifiers));
        fields(inside);
        for (Method method : inside.getDeclaredMethods()) {
            boolean taken = FACE.stream().anyMatch(sign -> sign.contains(" " + method.getName() + "("));
            CHECKS.holds("no name of the face: " + method, !taken);
        }
    }

    private static void fields(Class<?> type) {
        int own = 0;
        for (Field field : type.getDeclaredFields()) {
            if (!Modifier.isStatic(field.getModifiers())) {
                own++;
                continue;
            }
            CHECKS.holds("static is final: " + field, Modifier.isFinal(field.getModifiers()));
        }
        CHECKS.holds("few fields: " + type, own <= MOST_FIELDS);
        for (Method method : type.getDeclaredMethods()) {
            CHECKS.holds("few parameters: " + method, method.getParameterCount() <= MOST_PARAMETERS);
            boolean taken = FACE.stream().anyMatch(sign -> sign.contains(" " + method.getName() + "("));
            CHECKS.holds("no private method of a face's name: " + method, !Modifier.isPrivate(method.getModifiers()) || !taken);
        }
    }
}
