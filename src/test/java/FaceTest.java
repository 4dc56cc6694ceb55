import java.lang.reflect.Constructor;
import java.lang.reflect.Field;
import java.lang.reflect.Method;
import java.lang.reflect.Modifier;
import java.util.Arrays;
import java.util.Set;
import java.util.TreeSet;

/** The public face is the document's, and nothing else can be seen from outside. */
public final class FaceTest {
    private static final String[] METHODS = {
        "int letters(long)", "int blank()", "int fault(int)", "int ring()", "int aim()", "int letter()",
        "int house(int,int)", "int as(int,int)", "int at(int)", "int feud(int,int)", "int touch()", "int joins()",
        "int walk(int)", "int night(int,int)", "int nights(int,int)", "int seed(int)", "int apart(int,int)",
        "int choose(int,int)", "int fewest()", "int surely()", "int odds(int,int,int,int)", "long ways(int)",
        "int must(int)", "int image()", "int restore()", "int count(int)", "long digest()",
    };
    private static final String[] FIELDS = {
        "int NONE = -1", "int UNKNOWN = -101", "int OUTSIDE = -102", "int STATE = -103", "int FULL = -104",
    };
    private static int wrong = 0;

    public static void main(String[] args) throws IllegalAccessException {
        Class<?> face = HousesThatChange.class;
        due("class", Modifier.toString(face.getModifiers()), "public final");
        due("methods", methodsOf(face).toString(), new TreeSet<>(Arrays.asList(METHODS)).toString());
        due("constants", constantsOf(face).toString(), new TreeSet<>(Arrays.asList(FIELDS)).toString());
        due("constructors", constructorsOf(face), "[public HousesThatChange()]");
        for (Class<?> inside : face.getDeclaredClasses()) {
            int modifiers = inside.getModifiers();
            boolean hidden = !Modifier.isPublic(modifiers) && !Modifier.isProtected(modifiers);
            due(inside.getName(), "" + (hidden && Modifier.isStatic(modifiers)), "true");
        }
        System.out.println(wrong == 0 ? "the face is as due" : wrong + " parts of the face are not as due");
        System.exit(wrong == 0 ? 0 : 1);
    }

    private static void due(String what, String got, String want) {
        if (!got.equals(want)) {
            wrong++;
            System.out.println(what + ": " + got + ", due is " + want);
        }
    }

    private static Set<String> methodsOf(Class<?> face) {
        Set<String> methods = new TreeSet<>();
        Set<String> hidden = new TreeSet<>();
        Set<String> seen = new TreeSet<>();
        for (Method method : face.getDeclaredMethods()) {
            if (Modifier.isPrivate(method.getModifiers())) {
                hidden.add(method.getName());
                continue;
            }
            seen.add(method.getName());
            due(method.getName(), Modifier.toString(method.getModifiers()), "public");
            String parameters = Arrays.toString(method.getParameterTypes()).replaceAll("[\\[\\] ]", "");
            methods.add(method.getReturnType() + " " + method.getName() + "(" + parameters + ")");
        }
        hidden.retainAll(seen);
        due("private methods with a public one's name", hidden.toString(), "[]");
        return methods;
    }

    private static Set<String> constantsOf(Class<?> face) throws IllegalAccessException {
        Set<String> constants = new TreeSet<>();
        for (Field field : face.getDeclaredFields()) {
            if (!Modifier.isPrivate(field.getModifiers())) {
                due(field.getName(), Modifier.toString(field.getModifiers()), "public static final");
                constants.add(field.getType() + " " + field.getName() + " = " + field.get(null));
            }
        }
        return constants;
    }

    private static String constructorsOf(Class<?> face) {
        Set<String> constructors = new TreeSet<>();
        for (Constructor<?> constructor : face.getDeclaredConstructors()) {
            constructors.add(constructor.toString());
        }
        return constructors.toString();
    }
}
