import java.lang.reflect.Constructor;
import java.lang.reflect.Field;
import java.lang.reflect.Method;
import java.lang.reflect.Modifier;
import java.util.Set;
import java.util.TreeSet;

/** The public face: all that the document names, and nothing besides. */
public final class FaceTest {
    private static final String INDEX = "IndexOutOfBoundsException";
    private static final String ARGUMENT = "IllegalArgumentException";
    private static final String STATE = "IllegalStateException";

    public static void main(String[] args) {
        Checks checks = new Checks("the face");
        Set<String> due = new TreeSet<>();
        due.add("int path(int,int) " + INDEX + " " + ARGUMENT);
        due.add("int filter(int,int,int) " + ARGUMENT + " " + STATE);
        due.add("int step(int,int) " + INDEX + " " + ARGUMENT);
        due.add("void watch(int,int,int) " + INDEX + " " + ARGUMENT);
        due.add("void begin(int) " + INDEX);
        due.add("int feed(int,int) " + ARGUMENT + " " + STATE);
        due.add("int script(int,int) " + ARGUMENT + " " + STATE);
        due.add("double weight(int,int) " + INDEX);
        due.add("double of(int,int) " + INDEX + " " + ARGUMENT);
        due.add("int count(int,int) " + INDEX + " " + ARGUMENT);
        due.add("double microphone()");
        due.add("double batch(int) " + INDEX);
        due.add("double square(int,int,int) " + INDEX + " " + STATE);
        due.add("int best()");
        Set<String> got = new TreeSet<>();
        Set<String> names = new TreeSet<>();
        for (Method method : EchoBench.class.getDeclaredMethods()) {
            if (!Modifier.isPrivate(method.getModifiers())) {
                got.add(said(method));
                names.add(method.getName());
            }
        }
        checks.sameText("the methods", got.toString(), due.toString());
        for (Method method : EchoBench.class.getDeclaredMethods()) {
            if (Modifier.isPrivate(method.getModifiers())) {
                checks.holds(method + " has a name of its own", !names.contains(method.getName()));
            }
        }
        checks.sameText("the fields", fields(), "[LMS, NONE, NORMAL, RLS, SIGN]");
        Constructor<?>[] makers = EchoBench.class.getDeclaredConstructors();
        checks.same("constructors", makers.length, 1);
        checks.holds("the constructor is public, without parameters",
                Modifier.isPublic(makers[0].getModifiers()) && makers[0].getParameterCount() == 0);
        checks.holds("the class is final", Modifier.isFinal(EchoBench.class.getModifiers()));
        for (Class<?> inside : EchoBench.class.getDeclaredClasses()) {
            checks.holds(inside + " is static and not public", Modifier.isStatic(inside.getModifiers())
                    && !Modifier.isPublic(inside.getModifiers()) && !Modifier.isProtected(inside.getModifiers()));
        }
        checks.end();
    }

    private static String said(Method method) {
        StringBuilder said = new StringBuilder();
        said.append(method.getReturnType().getSimpleName()).append(' ').append(method.getName()).append('(');
        for (int i = 0; i < method.getParameterCount(); i++) {
            said.append(i == 0 ? "" : ",").append(method.getParameterTypes()[i].getSimpleName());
        }
        said.append(')');
        for (Class<?> thrown : method.getExceptionTypes()) {
            said.append(' ').append(thrown.getSimpleName());
        }
        return said.toString();
    }

    private static String fields() {
        Set<String> names = new TreeSet<>();
        for (Field field : EchoBench.class.getDeclaredFields()) {
            if (!Modifier.isPrivate(field.getModifiers())) {
                names.add(field.getName());
            }
        }
        return names.toString();
    }
}
