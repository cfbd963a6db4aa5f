import java.lang.reflect.Constructor;
import java.lang.reflect.Field;
import java.lang.reflect.Member;
import java.lang.reflect.Method;
import java.lang.reflect.Modifier;
import java.util.Arrays;
import java.util.TreeSet;

/** The public face as the document has it, and what rule 1 of LANGUAGE.md says of it. */
public final class FaceTest {
    private static final String[] METHODS = {"int write(int)", "int wipe()", "int fault()", "int net()", "int about(int)",
        "int node(int,int)", "int stamp(int,int,int)", "int link(int,int)", "int period(int)", "int turn(int)",
        "int power(int)", "int drift(int,int)", "int undo()", "int ahead(int,int,int)", "int agree()",
        "int judge(int,long)", "int see(int,int,int)", "int unsee()", "int which()", "int share(int,boolean)",
        "int chance(int,int,boolean)", "long seed(long)", "int drawn(int)", "int keep(int)", "int again(int)"};
    private FaceTest() {
    }

    public static void main(String[] args) throws Exception {
        constants();
        members();
        classesInside();
        Due.end();
    }

    private static void constants() {
        Due.due("UNKNOWN", TimeFlood.UNKNOWN, -1);
        Due.due("BAD", TimeFlood.BAD, -2);
        Due.due("LATE", TimeFlood.LATE, -3);
        Due.due("FULL", TimeFlood.FULL, -4);
        Due.due("NONE", TimeFlood.NONE, -9);
    }

    private static String told(Method m) {
        StringBuilder s = new StringBuilder(m.getReturnType() + " " + m.getName() + "(");
        for (Class<?> c : m.getParameterTypes()) {
            s.append(s.charAt(s.length() - 1) == '(' ? "" : ",").append(c.getName());
        }
        return s.append(")").toString();
    }

    private static void members() {
        Due.due("modifiers of the class", TimeFlood.class.getModifiers(), Modifier.PUBLIC | Modifier.FINAL);
        TreeSet<String> open = new TreeSet<>();
        TreeSet<String> names = new TreeSet<>();
        for (Method m : TimeFlood.class.getDeclaredMethods()) {
            if (!Modifier.isPrivate(m.getModifiers())) {
                open.add((Modifier.isPublic(m.getModifiers()) ? "" : "not public ") + told(m));
                names.add(m.getName());
            }
        }
        TreeSet<String> want = new TreeSet<>(Arrays.asList(METHODS));
        Due.due("methods of the face: " + open, open.equals(want) ? 1 : 0, 1);
        for (Method m : TimeFlood.class.getDeclaredMethods()) {
            boolean hidden = Modifier.isPrivate(m.getModifiers());
            Due.due("private " + m.getName(), hidden && names.contains(m.getName()) ? 1 : 0, 0);
        }
        TreeSet<String> fields = new TreeSet<>();
        for (Field f : TimeFlood.class.getDeclaredFields()) {
            if (!Modifier.isPrivate(f.getModifiers())) {
                fields.add(f.getName());
            }
            Due.due("static and not final: " + f, isLooseStatic(f) ? 1 : 0, 0);
        }
        Due.due("fields of the face: " + fields, fields.toString().equals("[BAD, FULL, LATE, NONE, UNKNOWN]") ? 1 : 0, 1);
        Constructor<?>[] made = TimeFlood.class.getDeclaredConstructors();
        Due.due("constructors", made.length, 1);
        Due.due("constructor", made[0].getParameterCount() == 0 && Modifier.isPublic(made[0].getModifiers()) ? 1 : 0, 1);
    }

    private static boolean isOfTheFace(String name) {
        for (String method : METHODS) {
            if (method.contains(" " + name + "(")) {
                return true;
            }
        }
        return false;
    }

    private static boolean isLooseStatic(Member f) {
        return Modifier.isStatic(f.getModifiers()) && !Modifier.isFinal(f.getModifiers());
    }

    private static void classesInside() {
        Class<?>[] inside = TimeFlood.class.getDeclaredClasses();
        Due.due("at most twelve classes", inside.length <= 11 ? 1 : 0, 1);
        for (Class<?> c : inside) {
            Due.due("static " + c, Modifier.isStatic(c.getModifiers()) ? 1 : 0, 1);
            Due.due("public " + c, Modifier.isPublic(c.getModifiers()) || Modifier.isProtected(c.getModifiers()) ? 1 : 0, 0);
            int own = 0;
            for (Field f : c.getDeclaredFields()) {
                Due.due("static and not final: " + f, isLooseStatic(f) ? 1 : 0, 0);
                own += Modifier.isStatic(f.getModifiers()) ? 0 : 1;
            }
            Due.due("fields of " + c, own <= 20 ? 1 : 0, 1);
            for (Method m : c.getDeclaredMethods()) {
                Due.due("parameters of " + m, m.getParameterCount() <= 7 ? 1 : 0, 1);
                boolean hidden = Modifier.isPrivate(m.getModifiers());
                Due.due("private " + m, hidden && isOfTheFace(m.getName()) ? 1 : 0, 0);
            }
        }
    }
}
