import java.io.IOException;
import java.lang.reflect.Constructor;
import java.lang.reflect.Field;
import java.lang.reflect.Method;
import java.lang.reflect.Modifier;
import java.util.Set;
import java.util.TreeSet;

/** The class has the document's face and no other member that can be seen from outside. */
public final class FaceTest {
    private FaceTest() {
    }

    public static void main(String[] args) throws IOException, IllegalAccessException {
        Check.begin("The public face");
        Check.same("modifiers", GroveMerge.class.getModifiers(), Modifier.PUBLIC | Modifier.FINAL);
        Set<String> due = due(new Document().text("The public face"));
        Check.same("a class, a constant, a constructor and 18 methods", due.size(), 1 + 1 + 1 + 18);
        Check.same("members", String.join("\n", shown()), String.join("\n", due));
        for (Class<?> inside : GroveMerge.class.getDeclaredClasses()) {
            Check.holds(inside + " is hidden", (inside.getModifiers() & (Modifier.PUBLIC | Modifier.PROTECTED)) == 0);
            Check.holds(inside + " is static", Modifier.isStatic(inside.getModifiers()));
        }
        Check.end();
    }

    /** The lines of the document without the names of parameters. */
    private static Set<String> due(String text) {
        Set<String> face = new TreeSet<>();
        for (String line : text.split("\n")) {
            if (line.trim().startsWith("public ")) {
                face.add(line.trim().replaceAll("\\b(int|boolean) \\w+(?=[,)])", "$1").replaceAll("( \\{|;)$", ""));
            }
        }
        return face;
    }

    private static Set<String> shown() throws IllegalAccessException {
        Set<String> face = new TreeSet<>();
        face.add(Modifier.toString(GroveMerge.class.getModifiers()) + " class " + GroveMerge.class.getName());
        for (Field field : GroveMerge.class.getDeclaredFields()) {
            if (!Modifier.isPrivate(field.getModifiers())) {
                face.add(Modifier.toString(field.getModifiers()) + " " + field.getType() + " " + field.getName() + " = " + field.get(null));
            }
        }
        for (Constructor<?> constructor : GroveMerge.class.getDeclaredConstructors()) {
            face.add(Modifier.toString(constructor.getModifiers()) + " GroveMerge(" + names(constructor.getParameterTypes()) + ")");
        }
        for (Method method : GroveMerge.class.getDeclaredMethods()) {
            if (!Modifier.isPrivate(method.getModifiers())) {
                String thrown = names(method.getExceptionTypes());
                face.add(Modifier.toString(method.getModifiers()) + " " + method.getReturnType() + " " + method.getName()
                    + "(" + names(method.getParameterTypes()) + ")" + (thrown.isEmpty() ? "" : " throws " + thrown));
            }
        }
        return face;
    }

    private static String names(Class<?>[] types) {
        StringBuilder text = new StringBuilder();
        for (Class<?> type : types) {
            text.append(text.length() == 0 ? "" : ", ").append(type.getSimpleName());
        }
        return text.toString();
    }
}
