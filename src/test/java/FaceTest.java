import java.lang.reflect.Constructor;
import java.lang.reflect.Field;
import java.lang.reflect.Method;
import java.lang.reflect.Modifier;
import java.util.HashSet;
import java.util.Set;
import java.util.TreeSet;

/** The public face is the document's, and no private method bears the name of a public one. */
public final class FaceTest {
    private static final String FACE = "[boolean bar(int), boolean unit(int), int branch(int,int),"
            + " int check(int,int), int child(int,int), int line(int), int read(), int unitOf(int),"
            + " int what(int), int write(int), long number(int,int), void clear()]";

    public static void main(String[] args) {
        Due due = new Due();
        due.same("public final", StepText.class.getModifiers(), Modifier.PUBLIC | Modifier.FINAL);
        due.same("NONE", StepText.NONE, -1);
        Set<String> face = new TreeSet<>();
        Set<String> names = new HashSet<>();
        for (Method m : StepText.class.getDeclaredMethods()) {
            if (!Modifier.isPrivate(m.getModifiers())) {
                names.add(m.getName());
                StringBuilder parameters = new StringBuilder();
                for (Class<?> p : m.getParameterTypes()) {
                    parameters.append(parameters.length() > 0 ? "," : "").append(p);
                }
                face.add(m.getReturnType() + " " + m.getName() + "(" + parameters + ")");
            }
        }
        due.same("the methods", face.toString(), FACE);
        for (Field f : StepText.class.getDeclaredFields()) {
            due.same("private " + f.getName(), Modifier.isPrivate(f.getModifiers()), !f.getName().equals("NONE"));
        }
        Constructor<?>[] constructors = StepText.class.getDeclaredConstructors();
        due.same("constructors", constructors.length, 1);
        due.same("of nothing", constructors[0].getParameterCount(), 0);
        for (Method m : StepText.class.getDeclaredMethods()) {
            due.same("private " + m.getName(), Modifier.isPrivate(m.getModifiers()) && names.contains(m.getName()), false);
        }
        for (Class<?> c : StepText.class.getDeclaredClasses()) {
            due.same("static " + c.getName(), Modifier.isStatic(c.getModifiers()), true);
            for (Method m : c.getDeclaredMethods()) {
                due.same(c.getName() + "." + m.getName(), names.contains(m.getName()), false);
            }
        }
        due.end();
    }
}
