import java.lang.reflect.Constructor;
import java.lang.reflect.Field;
import java.lang.reflect.Method;
import java.lang.reflect.Modifier;
import java.util.TreeSet;

/** The public face: its constants, constructor and methods, and nothing else that is not private. */
public final class FaceTest {
    private static final String[] FACE = {
        "int REFUSED = -1", "int NONE = -2", "int BAD = -3", "int ENDLESS = -4", "int LARGE = -5",
        "PatternSearch()", "int pattern(int)", "int newPattern()", "int compile()", "int fault()", "int text(int)",
        "int newText()", "int find(int)", "int group(int, boolean)", "int whole(int, int)", "int matches()",
        "int replace(int)", "int output(int)", "int state(int)",
    };

    public static void main(String[] args) throws IllegalAccessException {
        TreeSet<String> due = new TreeSet<>();
        for (String member : FACE) {
            due.add(member);
        }
        TreeSet<String> face = new TreeSet<>();
        TreeSet<String> hidden = new TreeSet<>();
        readFields(face);
        readConstructors(face);
        readMethods(face, hidden);
        Check.due("the face", face, due);
        hidden.retainAll(publicNames());
        Check.due("private methods with a public one's name", hidden, new TreeSet<String>());
        Check.due("the class's modifiers", Modifier.toString(PatternSearch.class.getModifiers()), "public final");
        checkInnerClasses();
        Check.end();
    }

    private static void readFields(TreeSet<String> face) throws IllegalAccessException {
        for (Field field : PatternSearch.class.getDeclaredFields()) {
            boolean fixed = Modifier.isStatic(field.getModifiers()) && Modifier.isFinal(field.getModifiers());
            if (Modifier.isPublic(field.getModifiers()) && fixed) {
                face.add(field.getType() + " " + field.getName() + " = " + field.get(null));
            } else if (!Modifier.isPrivate(field.getModifiers())) {
                face.add("not private: " + field);
            }
        }
    }

    private static void readConstructors(TreeSet<String> face) {
        for (Constructor<?> constructor : PatternSearch.class.getDeclaredConstructors()) {
            boolean plain = Modifier.isPublic(constructor.getModifiers()) && constructor.getParameterCount() == 0;
            face.add(plain ? "PatternSearch()" : "another constructor: " + constructor);
        }
    }

    private static void readMethods(TreeSet<String> face, TreeSet<String> hidden) {
        for (Method method : PatternSearch.class.getDeclaredMethods()) {
            if (Modifier.isPrivate(method.getModifiers())) {
                hidden.add(method.getName());
            } else if (method.getModifiers() == Modifier.PUBLIC) {
                face.add(signatureOf(method));
            } else {
                face.add("neither public nor private: " + method);
            }
        }
    }

    private static String signatureOf(Method method) {
        StringBuilder signature = new StringBuilder(method.getReturnType() + " " + method.getName() + "(");
        for (Class<?> parameter : method.getParameterTypes()) {
            signature.append(signature.charAt(signature.length() - 1) == '(' ? "" : ", ").append(parameter);
        }
        return signature.append(')').toString();
    }

    private static TreeSet<String> publicNames() {
        TreeSet<String> names = new TreeSet<>();
        for (Method method : PatternSearch.class.getDeclaredMethods()) {
            if (Modifier.isPublic(method.getModifiers())) {
                names.add(method.getName());
            }
        }
        return names;
    }

    private static void checkInnerClasses() {
        Class<?>[] inner = PatternSearch.class.getDeclaredClasses();
        Check.due("at most twelve classes", inner.length < 12, true);
        for (Class<?> one : inner) {
            Check.due(one + " is static", Modifier.isStatic(one.getModifiers()), true);
            Check.due(one + " is public", Modifier.isPublic(one.getModifiers()), false);
        }
    }
}
