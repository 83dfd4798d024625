import java.lang.reflect.Constructor;
import java.lang.reflect.Field;
import java.lang.reflect.Method;
import java.lang.reflect.Modifier;
import java.util.ArrayList;
import java.util.Arrays;
import java.util.Collections;
import java.util.List;

/** The public face: what the document has, and nothing else. */
public final class FaceTest {
    private static final Check CHECK = new Check();
    private static final String[] FACE = {
        "int feed(int,int,int,int,int)", "int scheme(int) IllegalArgumentException", "int fault()",
        "int count(int) NoSuchElementException", "int line(int) NoSuchElementException",
        "int point(int,int) NoSuchElementException",
        "int joined(int,int) NoSuchElementException,IllegalArgumentException",
        "int meet(int,int) NoSuchElementException,IllegalArgumentException",
        "int symmetry(int,int) NoSuchElementException", "int normal(int) NoSuchElementException",
        "int dual(int) NoSuchElementException", "int shelf(int,int) NoSuchElementException",
        "int way(int,int) NoSuchElementException", "int add(int)", "int drop(int)", "boolean swap(int,int)",
        "int turn()", "int grow(boolean)", "boolean place(int,int,int)", "int put(int)", "int take(int)", "int undo()",
        "int list(int,int,int,int) IllegalArgumentException,NoSuchElementException",
        "int square(int,int) NoSuchElementException,IllegalArgumentException",
        "int plane(int,int) NoSuchElementException,IllegalArgumentException",
        "int set(int) NoSuchElementException", "int far(int,int) NoSuchElementException",
        "int game(int) NoSuchElementException",
        "int years(int,int,int) NoSuchElementException,IllegalArgumentException", "void image()", "boolean restore()"};

    public static void main(String[] args) {
        Class<?> face = SchemeLister.class;
        CHECK.due("public and final", face.getModifiers(), Modifier.PUBLIC | Modifier.FINAL);
        methods(face);
        fields(face);
        Constructor<?>[] made = face.getDeclaredConstructors();
        CHECK.due("one constructor", made.length, 1);
        CHECK.due("it is public", made[0].getModifiers(), Modifier.PUBLIC);
        CHECK.due("without parameters", made[0].getParameterCount(), 0);
        for (Class<?> inside : face.getDeclaredClasses()) {
            int how = inside.getModifiers();
            CHECK.due(inside + " is static", Modifier.isStatic(how), true);
            CHECK.due(inside + " is not shown", Modifier.isPublic(how) || Modifier.isProtected(how), false);
            CHECK.due(inside + " has some twenty fields at most", changing(inside) <= 20, true);
        }
        CHECK.due(face + " has some twenty fields at most", changing(face) <= 20, true);
        CHECK.due("some twelve classes", 1 + face.getDeclaredClasses().length <= 12, true);
        CHECK.due("NONE", SchemeLister.NONE, -1);
        CHECK.end();
    }

    private static int changing(Class<?> of) {
        int sum = 0;
        for (Field f : of.getDeclaredFields()) {
            sum += Modifier.isStatic(f.getModifiers()) ? 0 : 1;
        }
        return sum;
    }

    private static String names(Class<?>[] types) {
        StringBuilder s = new StringBuilder();
        for (Class<?> t : types) {
            s.append(s.length() == 0 ? "" : ",").append(t.getSimpleName());
        }
        return s.toString();
    }

    private static void methods(Class<?> face) {
        List<String> shown = new ArrayList<>();
        List<String> publicNames = new ArrayList<>();
        for (Method m : face.getDeclaredMethods()) {
            if (!Modifier.isPrivate(m.getModifiers()) && !m.isSynthetic()) {
                CHECK.due(m + " is public and no more", m.getModifiers(), Modifier.PUBLIC);
                String thrown = names(m.getExceptionTypes());
                shown.add(m.getReturnType().getSimpleName() + " " + m.getName() + "(" + names(m.getParameterTypes()) + ")"
                        + (thrown.isEmpty() ? "" : " " + thrown));
                publicNames.add(m.getName());
            }
        }
        List<String> due = new ArrayList<>(Arrays.asList(FACE));
        Collections.sort(shown);
        Collections.sort(due);
        CHECK.same("the methods", shown.toString(), due.toString());
        for (Method m : face.getDeclaredMethods()) {
            if (Modifier.isPrivate(m.getModifiers())) {
                CHECK.due("private " + m.getName() + " has a name of its own", publicNames.contains(m.getName()), false);
            }
        }
        for (Class<?> inside : face.getDeclaredClasses()) {
            for (Method m : inside.getDeclaredMethods()) {
                CHECK.due(inside + "." + m.getName() + " has a name of its own", publicNames.contains(m.getName()), false);
            }
        }
    }

    private static void fields(Class<?> face) {
        int shown = 0;
        for (Field f : face.getDeclaredFields()) {
            if (!Modifier.isPrivate(f.getModifiers())) {
                shown++;
                CHECK.same("the only field that is shown", f.getName(), "NONE");
                CHECK.due("a constant", f.getModifiers(), Modifier.PUBLIC | Modifier.STATIC | Modifier.FINAL);
            }
            if (Modifier.isStatic(f.getModifiers())) {
                CHECK.due(f + " is final", Modifier.isFinal(f.getModifiers()), true);
            }
        }
        CHECK.due("one field is shown", shown, 1);
    }
}
