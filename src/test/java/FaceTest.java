import java.lang.reflect.Constructor;
import java.lang.reflect.Field;
import java.lang.reflect.Method;
import java.lang.reflect.Modifier;
import java.util.Arrays;
import java.util.TreeSet;

/** The public face: just the constants, the constructor and the methods of the document. */
public final class FaceTest {
    private static final String[] METHODS = {
        "alike(int, int, int, int) []", "clear() []", "count(int) []",
        "head(int, int) [NullPointerException, ArrayIndexOutOfBoundsException]", "make() []",
        "makeable(int) []", "member(int, int) []", "page(int) []", "put(int, long, int) []",
        "ran(int) []", "read(int) [ArrayIndexOutOfBoundsException]", "restore(int) []",
        "routine(int) []", "run(int, int, int, int) []", "share() [ArithmeticException]",
        "snapshot() []", "undo() []", "write(int, int) []"};

    public static void main(String[] args) {
        Due due = new Due("FaceTest");
        constants(due);
        members(due);
        due.end();
    }

    private static void constants(Due due) {
        due.answer("UNKNOWN", SelfChange.UNKNOWN, -1);
        due.answer("OUTSIDE", SelfChange.OUTSIDE, -2);
        due.answer("STATE", SelfChange.STATE, -3);
        due.answer("FULL", SelfChange.FULL, -4);
        due.answer("NONE", SelfChange.NONE, -5);
    }

    private static void members(Due due) {
        due.answer("final", Modifier.isFinal(SelfChange.class.getModifiers()) ? 1 : 0, 1);
        Constructor<?>[] made = SelfChange.class.getDeclaredConstructors();
        due.answer("constructors", made.length, 1);
        due.answer("public constructor", Modifier.isPublic(made[0].getModifiers()) ? 1 : 0, 1);
        TreeSet<String> methods = new TreeSet<>();
        TreeSet<String> names = new TreeSet<>();
        for (Method m : SelfChange.class.getDeclaredMethods()) {
            if (!Modifier.isPrivate(m.getModifiers())) {
                methods.add(form(m));
                names.add(m.getName());
            }
        }
        due.answer("methods " + methods, methods.equals(new TreeSet<>(Arrays.asList(METHODS))) ? 1 : 0, 1);
        privateNames(due, names);
        int open = 0;
        for (Field f : SelfChange.class.getDeclaredFields()) {
            open += Modifier.isPrivate(f.getModifiers()) ? 0 : 1;
        }
        due.answer("open fields", open, 5);
    }

    private static void privateNames(Due due, TreeSet<String> names) {
        for (Class<?> inside : SelfChange.class.getDeclaredClasses()) {
            due.answer(inside + " is static", Modifier.isStatic(inside.getModifiers()) ? 1 : 0, 1);
            for (Method m : inside.getDeclaredMethods()) {
                due.answer(inside + " has a name of the face: " + m.getName(), names.contains(m.getName()) ? 1 : 0, 0);
            }
        }
        for (Method m : SelfChange.class.getDeclaredMethods()) {
            boolean twice = Modifier.isPrivate(m.getModifiers()) && names.contains(m.getName());
            due.answer("private " + m.getName(), twice ? 1 : 0, 0);
        }
    }

    private static String form(Method m) {
        StringBuilder form = new StringBuilder(m.getName()).append('(');
        for (int i = 0; i < m.getParameterCount(); i++) {
            form.append(i == 0 ? "" : ", ").append(m.getParameterTypes()[i].getSimpleName());
        }
        form.append(") ");
        String[] thrown = new String[m.getExceptionTypes().length];
        for (int i = 0; i < thrown.length; i++) {
            thrown[i] = m.getExceptionTypes()[i].getSimpleName();
        }
        return form.append(Arrays.toString(thrown)).toString();
    }
}
