import java.lang.reflect.Constructor;
import java.lang.reflect.Field;
import java.lang.reflect.Method;
import java.lang.reflect.Modifier;
import java.util.Set;
import java.util.TreeSet;

/** The class has the document's face and no other member that can be seen from outside. */
public final class FaceTest {
    private static final String NO_SUCH = "NoSuchElementException";
    private static final String OUT = "IndexOutOfBoundsException";
    private static final String ILLEGAL = "IllegalArgumentException";
    private static final String UNSUPPORTED = "UnsupportedOperationException";

    private FaceTest() {
    }

    public static void main(String[] args) {
        Check.same("modifiers", GroveMerge.class.getModifiers(), Modifier.PUBLIC | Modifier.FINAL);
        Check.same("the face", String.join("\n", shown()), String.join("\n", due()));
        for (Class<?> inside : GroveMerge.class.getDeclaredClasses()) {
            boolean hidden = (inside.getModifiers() & (Modifier.PUBLIC | Modifier.PROTECTED)) == 0;
            Check.same(inside + " is hidden and static", String.valueOf(hidden && Modifier.isStatic(inside.getModifiers())), "true");
        }
        Check.end();
    }

    private static Set<String> due() {
        Set<String> face = new TreeSet<>();
        face.add("public static final int NONE");
        face.add("public GroveMerge()");
        add(face, "int insert(int, int, int)", NO_SUCH, OUT, ILLEGAL, UNSUPPORTED);
        add(face, "int delete(int)", NO_SUCH, ILLEGAL);
        add(face, "void move(int, int, int)", NO_SUCH, ILLEGAL, OUT);
        add(face, "void relabel(int, int)", NO_SUCH, ILLEGAL);
        add(face, "int commit()", UNSUPPORTED);
        add(face, "void checkout(int)", NO_SUCH);
        add(face, "int base(int, int)", NO_SUCH);
        add(face, "int merge(int)", NO_SUCH, "IllegalStateException");
        add(face, "int conflict(int)", NO_SUCH);
        add(face, "int about(int, int)", NO_SUCH, OUT);
        add(face, "int child(int, int)", NO_SUCH, OUT);
        add(face, "int nodes(boolean)");
        add(face, "int count(int)");
        add(face, "int find(int, int)", NO_SUCH);
        add(face, "int alike(int)", NO_SUCH);
        add(face, "int distance(int, int)", NO_SUCH);
        add(face, "int state(int)", ILLEGAL);
        add(face, "int above(int, int)", NO_SUCH, OUT);
        return face;
    }

    private static void add(Set<String> face, String method, String... thrown) {
        face.add("public " + method + (thrown.length == 0 ? "" : " throws " + String.join(", ", thrown)));
    }

    private static Set<String> shown() {
        Set<String> face = new TreeSet<>();
        for (Field field : GroveMerge.class.getDeclaredFields()) {
            if (!Modifier.isPrivate(field.getModifiers())) {
                face.add(Modifier.toString(field.getModifiers()) + " " + field.getType() + " " + field.getName());
            }
        }
        for (Constructor<?> constructor : GroveMerge.class.getDeclaredConstructors()) {
            face.add(Modifier.toString(constructor.getModifiers()) + " GroveMerge(" + names(constructor.getParameterTypes()) + ")");
        }
        for (Method method : GroveMerge.class.getDeclaredMethods()) {
            if (!Modifier.isPrivate(method.getModifiers())) {
                String thrown = names(method.getExceptionTypes());
                face.add(Modifier.toString(method.getModifiers()) + " " + method.getReturnType() + " " + method.getName()
                    + "(" + names(method.getParameterTypes()) + ")" + (thrown.isEmpty() ? "" : " throws " + thrown));
            }
        }
        return face;
    }

    private static String names(Class<?>[] types) {
        StringBuilder text = new StringBuilder();
        for (Class<?> type : types) {
            text.append(text.length() == 0 ? "" : ", ").append(type.getSimpleName());
        }
        return text.toString();
    }
}
