import java.lang.reflect.Constructor;
import java.lang.reflect.Field;
import java.lang.reflect.Method;
import java.lang.reflect.Modifier;
import java.util.Arrays;
import java.util.Set;
import java.util.TreeSet;

/** The public face, and rule 1 of ../shared/LANGUAGE.md. */
public final class FaceTest {
    private static final String[] CALLS = {
        "int begin(int)", "int aim(int,int)", "int pass(int)", "int scratch(int,int)", "int mend(int)",
        "int heat(int,int)", "int set(int,int)", "int append(int)", "int clear()", "int fault()", "int run()",
        "int cell(int,int)", "int joint(int,int)", "int strained(int)", "int pieces(int)", "int count(int)",
        "double mean(int)", "int ifPassed(int,int)", "int fastest(int,int)", "int evenIn(int)", "int undo()",
        "int save()", "int restore()"};
    private static final String[] CONSTANTS = {
        "INVALID_ARGUMENT", "NOT_POSSIBLE", "LIMIT_REACHED", "NOT_FOUND", "LEAD", "RIM"};

    public static void main(String[] arguments) {
        constants();
        methods();
        fieldsAndConstructors();
        nestedClasses();
        Check.end();
    }

    private static void constants() {
        Check.due("INVALID_ARGUMENT", ColdPanes.INVALID_ARGUMENT, -1);
        Check.due("NOT_POSSIBLE", ColdPanes.NOT_POSSIBLE, -2);
        Check.due("LIMIT_REACHED", ColdPanes.LIMIT_REACHED, -3);
        Check.due("NOT_FOUND", ColdPanes.NOT_FOUND, -4);
        Check.due("LEAD", ColdPanes.LEAD, 0);
        Check.due("RIM", ColdPanes.RIM, 1);
    }

    private static void methods() {
        Set<String> due = new TreeSet<>(Arrays.asList(CALLS));
        Set<String> names = new TreeSet<>();
        Set<String> got = new TreeSet<>();
        for (String call : CALLS) {
            names.add(call.substring(call.indexOf(' ') + 1, call.indexOf('(')));
        }
        for (Method method : ColdPanes.class.getDeclaredMethods()) {
            if (method.isSynthetic()) {
                continue;
            }
            if (Modifier.isPublic(method.getModifiers())) {
                got.add(signature(method));
            } else {
                Check.dueTrue(method + " is private", Modifier.isPrivate(method.getModifiers()));
                Check.dueTrue(method + " has a name of its own", !names.contains(method.getName()));
            }
        }
        Check.dueTrue("the public methods are the document's: " + got, got.equals(due));
    }

    private static String signature(Method method) {
        StringBuilder text = new StringBuilder();
        text.append(method.getReturnType().getSimpleName()).append(' ').append(method.getName()).append('(');
        String between = "";
        for (Class<?> type : method.getParameterTypes()) {
            text.append(between).append(type.getSimpleName());
            between = ",";
        }
        return text.append(')').toString();
    }

    private static void fieldsAndConstructors() {
        Set<String> got = new TreeSet<>();
        for (Field field : ColdPanes.class.getDeclaredFields()) {
            int modifiers = field.getModifiers();
            if (Modifier.isPublic(modifiers)) {
                got.add(field.getName());
                Check.dueTrue(field + " is a constant", Modifier.isStatic(modifiers) && Modifier.isFinal(modifiers));
            } else {
                Check.dueTrue(field + " is private", Modifier.isPrivate(modifiers));
            }
            if (Modifier.isStatic(modifiers)) {
                Check.dueTrue(field + " is final", Modifier.isFinal(modifiers));
            }
        }
        Check.dueTrue("the public fields are the document's: " + got,
            got.equals(new TreeSet<>(Arrays.asList(CONSTANTS))));
        Constructor<?>[] constructors = ColdPanes.class.getDeclaredConstructors();
        Check.due("constructors", constructors.length, 1);
        Check.dueTrue("the constructor is public", Modifier.isPublic(constructors[0].getModifiers()));
        Check.due("parameters of the constructor", constructors[0].getParameterCount(), 0);
        Check.dueTrue("the class is public and final", Modifier.isPublic(ColdPanes.class.getModifiers())
            && Modifier.isFinal(ColdPanes.class.getModifiers()));
    }

    private static void nestedClasses() {
        for (Class<?> inside : ColdPanes.class.getDeclaredClasses()) {
            int modifiers = inside.getModifiers();
            Check.dueTrue(inside + " is static", Modifier.isStatic(modifiers));
            Check.dueTrue(inside + " is hidden", !Modifier.isPublic(modifiers) && !Modifier.isProtected(modifiers));
        }
    }
}
