import java.lang.reflect.Constructor;
import java.lang.reflect.Field;
import java.lang.reflect.Method;
import java.lang.reflect.Modifier;
import java.util.Set;
import java.util.TreeSet;

/** The public members are the document's and no others; nothing else can be seen from outside. */
public final class FaceTest {
    private static final String[] FACE = {
        "int feed(int,int,int,int,int)", "boolean end(int)",
        "int orders() IllegalArgumentException UnsupportedOperationException", "int fault()",
        "int ground(int,int,int) IndexOutOfBoundsException IllegalArgumentException",
        "int kind(int) IndexOutOfBoundsException",
        "int rail(int,int) IllegalArgumentException UnsupportedOperationException",
        "int gang(int,int) IllegalArgumentException UnsupportedOperationException",
        "int task(int,int) IndexOutOfBoundsException IllegalArgumentException",
        "int store(int,int) NoSuchElementException IllegalArgumentException IllegalStateException",
        "int set(int,int,int) IndexOutOfBoundsException IllegalArgumentException IllegalStateException",
        "int lift() IllegalStateException", "int lay(int) IndexOutOfBoundsException IllegalStateException",
        "boolean go(boolean) IllegalStateException", "int fill() IllegalStateException",
        "int dig() IllegalStateException", "int rest(int) IllegalArgumentException",
        "int run(int,int) IndexOutOfBoundsException IllegalArgumentException", "int where()",
        "int look(int,int) IndexOutOfBoundsException NoSuchElementException", "int line(int,boolean)",
        "int route(int,int) IndexOutOfBoundsException IllegalArgumentException IllegalStateException",
        "int reach(int,int) IndexOutOfBoundsException IllegalArgumentException IllegalStateException",
        "int joints(boolean)", "int worn()", "boolean few()", "int steal(int) IllegalArgumentException",
        "void lose(int) IndexOutOfBoundsException IllegalStateException",
        "int which(int,int) IndexOutOfBoundsException", "int ahead(int,boolean) IllegalArgumentException",
        "void image()", "boolean back()", "int count(int)"};

    private FaceTest() { }

    public static void main(String[] args) {
        Check check = new Check("FaceTest");
        Set<String> methods = new TreeSet<>();
        Set<String> names = new TreeSet<>();
        Set<String> hidden = new TreeSet<>();
        for (Method m : SandRails.class.getDeclaredMethods()) {
            if (Modifier.isPrivate(m.getModifiers()) || m.isSynthetic()) {
                hidden.add(m.getName());
                continue;
            }
            check.due(m + " is public", Modifier.isPublic(m.getModifiers()), true);
            methods.add(tell(m));
            names.add(m.getName());
        }
        check.due("the methods", methods, new TreeSet<>(Set.of(FACE)));
        hidden.retainAll(names);
        check.due("private methods by public names", hidden, Set.of());
        Set<String> fields = new TreeSet<>();
        for (Field f : SandRails.class.getDeclaredFields()) {
            if (!Modifier.isPrivate(f.getModifiers())) {
                fields.add(Modifier.toString(f.getModifiers()) + " " + f.getType() + " " + f.getName());
            }
        }
        check.due("the constants", fields, Set.of("public static final int NONE"));
        Constructor<?>[] made = SandRails.class.getDeclaredConstructors();
        check.due("one constructor", made.length, 1);
        check.due("it is public and takes nothing",
            Modifier.isPublic(made[0].getModifiers()) && made[0].getParameterCount() == 0, true);
        check.due("the class is public and final", Modifier.toString(SandRails.class.getModifiers()), "public final");
        for (Class<?> inner : SandRails.class.getDeclaredClasses()) {
            int m = inner.getModifiers();
            check.due(inner + " is static", Modifier.isStatic(m), true);
            check.due(inner + " is hidden", Modifier.isPublic(m) || Modifier.isProtected(m), false);
            for (Method own : inner.getDeclaredMethods()) {
                check.due(own + " bears a public name", names.contains(own.getName()), false);
            }
        }
        check.due("at most twelve classes", SandRails.class.getDeclaredClasses().length < 12, true);
        check.due("NONE", SandRails.NONE, -1);
        check.end();
    }

    private static String tell(Method m) {
        StringBuilder b = new StringBuilder(m.getReturnType().getName()).append(' ').append(m.getName()).append('(');
        for (Class<?> p : m.getParameterTypes()) {
            b.append(b.charAt(b.length() - 1) == '(' ? "" : ",").append(p.getName());
        }
        b.append(')');
        for (Class<?> e : m.getExceptionTypes()) {
            b.append(' ').append(e.getSimpleName());
        }
        return b.toString();
    }
}
