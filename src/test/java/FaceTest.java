import java.lang.reflect.Constructor;
import java.lang.reflect.Field;
import java.lang.reflect.Method;
import java.lang.reflect.Modifier;
import java.util.ArrayList;
import java.util.Arrays;
import java.util.List;
import java.util.TreeSet;

/** The class has the document's face and no other member that is not private. */
public final class FaceTest {
    private static final String[] METHODS = {
        "boolean mill(int,int,int)", "boolean strip(int,int)", "int width(int,int)", "boolean order(int,int)",
        "boolean length(int)", "int about(int,int)", "int patterns()", "long pattern(int,int)",
        "int find(int,int,int,int,int,int)", "boolean price(int,int)", "int best()", "int bound()", "int greedy()",
        "int fewest()", "int slot(int,int)", "boolean drop(int)", "int slotted(int,int)", "int plan(int)",
        "int line()", "int lot(int,int,boolean)", "int lotted(int,int)", "int cut(int,int,int)", "long area(int)",
        "void keep()", "boolean undo()", "int share(int,int,int) throws java.lang.ArithmeticException"
    };

    public static void main(String[] args) throws Exception {
        Check check = new Check();
        Class<?> c = ReelSlitter.class;
        check.same("modifiers", Modifier.toString(c.getModifiers()), "public final");
        check.same("NONE", (long) ReelSlitter.NONE, -1L);
        check.same("methods", openMethods(c).toString(), new TreeSet<>(Arrays.asList(METHODS)).toString());
        check.same("fields", openFields(c).toString(), "[public static final int NONE]");
        check.same("constructors", Arrays.toString(c.getDeclaredConstructors()), "[public ReelSlitter()]");
        for (Constructor<?> k : c.getDeclaredConstructors()) {
            check.same("parameters of the constructor", k.getParameterCount(), 0);
        }
        for (Class<?> inner : c.getDeclaredClasses()) {
            int m = inner.getModifiers();
            check.same(inner + " is static", Modifier.isStatic(m), true);
            check.same(inner + " is hidden", Modifier.isPublic(m) || Modifier.isProtected(m), false);
        }
        check.end();
    }

    private static TreeSet<String> openMethods(Class<?> c) {
        TreeSet<String> open = new TreeSet<>();
        for (Method m : c.getDeclaredMethods()) {
            if (Modifier.isPrivate(m.getModifiers()) || m.isSynthetic()) {
                continue;
            }
            String text = m.toString().replace("ReelSlitter.", "");
            open.add(text.startsWith("public ") ? text.substring("public ".length()) : text);
        }
        return open;
    }

    private static List<String> openFields(Class<?> c) {
        List<String> open = new ArrayList<>();
        for (Field f : c.getDeclaredFields()) {
            if (!Modifier.isPrivate(f.getModifiers()) && !f.isSynthetic()) {
                open.add(f.toString().replace("ReelSlitter.", ""));
            }
        }
        return open;
    }
}
