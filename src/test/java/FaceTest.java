import java.lang.reflect.Constructor;
import java.lang.reflect.Field;
import java.lang.reflect.Member;
import java.lang.reflect.Method;
import java.lang.reflect.Modifier;
import java.util.Set;
import java.util.TreeSet;

/** The public face: all of it is there, and nothing else can be seen from outside. */
public final class FaceTest {
    private static final Set<String> FACE = Set.of(
            "int feed(int,int,int,int,int)", "int end(int)", "int told(int)", "int points()",
            "int point(int,int)", "int input(int)", "int drop()", "int run(int)", "int ran(int)",
            "int value(int)", "int place(int,int)");

    public static void main(String[] args) {
        Check check = new Check();
        check.due("NONE", ProgramRuns.NONE, -1);
        int modifiers = ProgramRuns.class.getModifiers();
        check.due("public and final", modifiers & (Modifier.PUBLIC | Modifier.FINAL), Modifier.PUBLIC | Modifier.FINAL);
        check.due("the methods", methods().equals(FACE) ? 1 : 0, 1);
        for (Field field : ProgramRuns.class.getDeclaredFields()) {
            check.due("field " + field.getName() + " can be seen", isSeen(field) ? 1 : 0, field.getName().equals("NONE") ? 1 : 0);
        }
        Constructor<?>[] constructors = ProgramRuns.class.getDeclaredConstructors();
        check.due("constructors", constructors.length, 1);
        check.due("the constructor is public", constructors[0].getModifiers(), Modifier.PUBLIC);
        for (Class<?> inside : ProgramRuns.class.getDeclaredClasses()) {
            check.due(inside + " is static", inside.getModifiers() & Modifier.STATIC, Modifier.STATIC);
            check.due(inside + " is hidden", inside.getModifiers() & (Modifier.PUBLIC | Modifier.PROTECTED), 0);
        }
        check.close();
    }

    private static boolean isSeen(Member member) {
        return !Modifier.isPrivate(member.getModifiers()) && !member.isSynthetic();
    }

    private static Set<String> methods() {
        Set<String> seen = new TreeSet<>();
        for (Method method : ProgramRuns.class.getDeclaredMethods()) {
            if (isSeen(method)) {
                String parameters = "int,".repeat(method.getParameterCount());
                String inSigns = parameters.isEmpty() ? "" : parameters.substring(0, parameters.length() - 1);
                seen.add(method.getReturnType() + " " + method.getName() + "(" + inSigns + ")");
            }
        }
        return seen;
    }
}
