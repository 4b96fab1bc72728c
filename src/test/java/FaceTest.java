import java.lang.reflect.Constructor;
import java.lang.reflect.Field;
import java.lang.reflect.Method;
import java.lang.reflect.Modifier;
import java.util.Arrays;
import java.util.Set;
import java.util.TreeSet;

/** The face of the class is that of the document, with its throws clauses, and nothing else. */
public final class FaceTest {

    private static final String[] METHODS = {
        "int addTenant(int) A S", "int addInsurer(int,int,int) A S", "int set(int,int) I A",
        "int lease(int,int,int) I A S", "int insure(int,int,int) I A S", "int renew(int) I S",
        "int write(int,boolean) I S", "int read(int) I S", "int writeBack() S", "int pass(int) A S",
        "int append(int) A S", "int clearBuffer()", "int firstError()", "int run(int) I A", "int undo() S",
        "int core(int,int) I A", "int tenant(int,int) I A", "int insurer(int,int) I A", "int owed(int,int) A",
        "int weakest(int) A", "int count(int) A", "int setting(int) I", "int premium(int,int,int) I A",
        "int cheapest(int,int,int) I A", "int waitFor(int,int,int,int) I A", "int ifRead(int,int) I A",
        "int gentlest()", "int savable(int) A", "int atRisk(int) I", "double backShare()", "long digest()"};

    private static int wrong = 0;

    public static void main(String[] args) {
        Class<?> face = CoreLeases.class;
        must(Modifier.isPublic(face.getModifiers()) && Modifier.isFinal(face.getModifiers()), "public final class");
        must(face.getPackage().getName().isEmpty(), "no package");
        methods(face);
        fields(face);
        constructors(face);
        inside(face);
        System.out.println("things wrong with the face: " + wrong);
        System.exit(wrong == 0 ? 0 : 1);
    }

    private static void must(boolean holds, String what) {
        if (!holds) {
            wrong++;
            System.out.println("the face: " + what);
        }
    }

    private static void methods(Class<?> face) {
        Set<String> found = new TreeSet<>();
        Set<String> publicNames = new TreeSet<>();
        for (Method m : face.getDeclaredMethods()) {
            if (Modifier.isPublic(m.getModifiers())) {
                found.add(told(m));
                publicNames.add(m.getName());
            }
        }
        Set<String> due = new TreeSet<>(Arrays.asList(METHODS));
        must(found.equals(due), "public methods are " + found + ", due are " + due);
        for (Method m : face.getDeclaredMethods()) {
            if (!Modifier.isPublic(m.getModifiers())) {
                must(Modifier.isPrivate(m.getModifiers()), m.getName() + " is neither public nor private");
                must(!publicNames.contains(m.getName()), m.getName() + " is private and bears a public name");
            }
        }
    }

    private static String told(Method m) {
        StringBuilder text = new StringBuilder(m.getReturnType().getName()).append(' ').append(m.getName()).append('(');
        for (int i = 0; i < m.getParameterCount(); i++) {
            text.append(i == 0 ? "" : ",").append(m.getParameterTypes()[i].getName());
        }
        text.append(')');
        for (Class<?> e : m.getExceptionTypes()) {
            text.append(' ').append(e == IndexOutOfBoundsException.class ? "I"
                : e == IllegalArgumentException.class ? "A" : e == IllegalStateException.class ? "S" : e.getName());
        }
        return text.toString();
    }

    private static void fields(Class<?> face) {
        for (Field f : face.getDeclaredFields()) {
            int m = f.getModifiers();
            if (f.getName().equals("NONE")) {
                must(Modifier.isPublic(m) && Modifier.isStatic(m) && Modifier.isFinal(m), "NONE is a public constant");
            } else {
                must(Modifier.isPrivate(m), f.getName() + " is not private");
                must(!Modifier.isStatic(m) || Modifier.isFinal(m), f.getName() + " is static and not final");
            }
        }
        must(CoreLeases.NONE == -1, "NONE is -1");
    }

    private static void constructors(Class<?> face) {
        Constructor<?>[] all = face.getDeclaredConstructors();
        must(all.length == 1 && all[0].getParameterCount() == 0 && Modifier.isPublic(all[0].getModifiers()),
            "one public constructor without arguments");
    }

    private static void inside(Class<?> face) {
        must(face.getDeclaredClasses().length <= 12, "some twelve classes");
        for (Class<?> c : face.getDeclaredClasses()) {
            int m = c.getModifiers();
            must(Modifier.isStatic(m) && !Modifier.isPublic(m) && !Modifier.isProtected(m), c.getName());
            long own = Arrays.stream(c.getDeclaredFields()).filter(f -> !Modifier.isStatic(f.getModifiers())).count();
            must(own <= 20, c.getName() + " has more than twenty fields");
            for (Field f : c.getDeclaredFields()) {
                int of = f.getModifiers();
                must(!Modifier.isStatic(of) || Modifier.isFinal(of), f + " is static and not final");
            }
        }
    }
}
