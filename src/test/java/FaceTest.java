import java.lang.reflect.Constructor;
import java.lang.reflect.Field;
import java.lang.reflect.Method;
import java.lang.reflect.Modifier;
import java.util.Arrays;
import java.util.Set;
import java.util.TreeSet;

/** The public face: all that the document tells, and nothing more. */
public final class FaceTest {
    private static final String[] FACE = {
        "int feed(int,int,int,int,int)", "boolean end(int)", "int law(int)", "int wrong()", "int rule(int,int)",
        "int person(int)", "int coin(int,int)", "int horse(int)", "int sell(int,int,int,int,int)",
        "boolean find(int,int,int)", "int back(int)", "int trace(int)", "boolean steal(int,int)", "int claim(int)",
        "int next()", "int about(int,int)", "int fault(int,int,int)", "int sale(int,int)", "int purse(int,int)",
        "int debt(int,int)", "int hand(int,int,int)", "int count(int)",
    };

    public static void main(String[] args) throws ReflectiveOperationException {
        Checks checks = new Checks("FaceTest");
        Class<?> fair = HorseFair.class;
        checks.due("public final", Modifier.isPublic(fair.getModifiers()) && Modifier.isFinal(fair.getModifiers()), true);
        checks.due("NONE", HorseFair.NONE, -1);
        methods(checks, fair);
        fields(checks, fair);
        Constructor<?>[] made = fair.getDeclaredConstructors();
        checks.due("constructors", made.length, 1);
        checks.due("public constructor", Modifier.isPublic(made[0].getModifiers()), true);
        checks.due("constructor's parameters", made[0].getParameterCount(), 0);
        for (Class<?> inside : fair.getDeclaredClasses()) {
            checks.due(inside + " is static", Modifier.isStatic(inside.getModifiers()), true);
        }
        checks.close();
    }

    private static void methods(Checks checks, Class<?> fair) {
        Set<String> got = new TreeSet<>();
        Set<String> names = new TreeSet<>();
        for (Method m : fair.getDeclaredMethods()) {
            if (Modifier.isPublic(m.getModifiers())) {
                got.add(told(m));
                names.add(m.getName());
            }
        }
        checks.due("the face " + got, got.equals(new TreeSet<>(Arrays.asList(FACE))), true);
        for (Method m : fair.getDeclaredMethods()) {
            boolean open = Modifier.isPublic(m.getModifiers());
            checks.due(m + " is public or private", open || Modifier.isPrivate(m.getModifiers()), true);
            checks.due(m + " bears a public name", !open && names.contains(m.getName()), false);
        }
    }

    private static void fields(Checks checks, Class<?> fair) {
        for (Field f : fair.getDeclaredFields()) {
            boolean none = f.getName().equals("NONE");
            checks.due(f + " public", Modifier.isPublic(f.getModifiers()), none);
            checks.due(f + " private", Modifier.isPrivate(f.getModifiers()), !none);
            checks.due(f + " static but not final", Modifier.isStatic(f.getModifiers())
                    && !Modifier.isFinal(f.getModifiers()), false);
        }
    }

    private static String told(Method m) {
        StringBuilder line = new StringBuilder(m.getReturnType() + " " + m.getName() + "(");
        for (Class<?> type : m.getParameterTypes()) {
            line.append(line.charAt(line.length() - 1) == '(' ? "" : ",").append(type);
        }
        return line.append(")").toString();
    }
}
