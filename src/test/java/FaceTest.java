import java.lang.reflect.Constructor;
import java.lang.reflect.Field;
import java.lang.reflect.Method;
import java.lang.reflect.Modifier;
import java.util.Arrays;
import java.util.HashSet;
import java.util.Set;
import java.util.TreeSet;

/** The face is that of the document and nothing more, and no method within bears one of its names. */
public final class FaceTest {
    private static final String[] DUE = {
        "int feed(int,int,int,int,int) UnsupportedOperationException",
        "void end(int) IllegalArgumentException",
        "void format(int,int) IllegalArgumentException",
        "int series() IllegalStateException UnsupportedOperationException",
        "int fault(int) IndexOutOfBoundsException",
        "int letter(int,int) IllegalStateException IndexOutOfBoundsException",
        "int append(int,long,long) IllegalStateException IndexOutOfBoundsException IllegalArgumentException UnsupportedOperationException",
        "int bulk(int) IllegalStateException IndexOutOfBoundsException",
        "int delete(int,long,long) IllegalStateException IndexOutOfBoundsException IllegalArgumentException UnsupportedOperationException",
        "boolean sync() IllegalStateException",
        "int flush() IllegalStateException UnsupportedOperationException",
        "int compact(int) IllegalStateException IndexOutOfBoundsException UnsupportedOperationException",
        "int retain(long) IllegalStateException IllegalArgumentException",
        "int ask(long,long,int) IllegalStateException IllegalArgumentException",
        "int names()",
        "int text(int,int,int) IndexOutOfBoundsException",
        "boolean isThere(int,int) IndexOutOfBoundsException",
        "long cell(int,int) IndexOutOfBoundsException",
        "int count(int) IllegalStateException IllegalArgumentException",
        "int parcel(int,int) IllegalStateException IndexOutOfBoundsException IllegalArgumentException",
        "long last(int) IllegalStateException IndexOutOfBoundsException",
        "int written()",
        "void cut(int) IllegalStateException IllegalArgumentException",
        "void off() IllegalStateException",
        "int start() IllegalStateException",
    };
    private static final Check CHECK = new Check();

    private FaceTest() {
    }

    public static void main(String[] args) {
        Set<String> face = new TreeSet<>();
        Set<String> names = new HashSet<>();
        for (Method m : SeriesVault.class.getDeclaredMethods()) {
            if (!Modifier.isPrivate(m.getModifiers()) && !m.isSynthetic()) {
                face.add(told(m));
                names.add(m.getName());
            }
        }
        CHECK.due("methods", face.toString(), new TreeSet<>(Arrays.asList(DUE)).toString());
        for (Method m : SeriesVault.class.getDeclaredMethods()) {
            CHECK.due("private " + m.getName(), Modifier.isPrivate(m.getModifiers()) && names.contains(m.getName()), false);
        }
        for (Field f : SeriesVault.class.getDeclaredFields()) {
            CHECK.due("field " + f.getName(), Modifier.isPrivate(f.getModifiers()), !f.getName().equals("NONE"));
        }
        Constructor<?>[] made = SeriesVault.class.getDeclaredConstructors();
        CHECK.due("constructors", made.length, 1);
        CHECK.due("class", Modifier.isFinal(SeriesVault.class.getModifiers()) && Modifier.isPublic(SeriesVault.class.getModifiers()), true);
        for (Class<?> inside : SeriesVault.class.getDeclaredClasses()) {
            lookInside(inside, names);
        }
        CHECK.due("classes", SeriesVault.class.getDeclaredClasses().length < 12, true);
        CHECK.finish("FaceTest");
    }

    private static void lookInside(Class<?> inside, Set<String> names) {
        CHECK.due("static " + inside, Modifier.isStatic(inside.getModifiers()), true);
        int fields = 0;
        for (Field f : inside.getDeclaredFields()) {
            fields += Modifier.isStatic(f.getModifiers()) ? 0 : 1;
            CHECK.due("constant " + f, Modifier.isStatic(f.getModifiers()) && !Modifier.isFinal(f.getModifiers()), false);
        }
        CHECK.due("fields of " + inside, fields <= 20, true);
        for (Method m : inside.getDeclaredMethods()) {
            CHECK.due("name of " + m, names.contains(m.getName()), false);
            CHECK.due("parameters of " + m, m.getParameterCount() <= 7, true);
        }
    }

    private static String told(Method m) {
        StringBuilder text = new StringBuilder(m.getReturnType().getName()).append(' ').append(m.getName()).append('(');
        for (Class<?> p : m.getParameterTypes()) {
            text.append(text.charAt(text.length() - 1) == '(' ? "" : ",").append(p.getName());
        }
        text.append(')');
        for (Class<?> e : m.getExceptionTypes()) {
            text.append(' ').append(e.getSimpleName());
        }
        return text.toString();
    }
}
