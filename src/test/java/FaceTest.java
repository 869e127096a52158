import java.lang.reflect.Constructor;
import java.lang.reflect.Field;
import java.lang.reflect.Method;
import java.lang.reflect.Modifier;
import java.util.Arrays;
import java.util.Set;
import java.util.TreeSet;
import java.util.stream.Collectors;

/** The public face and the constants: all that the document names, and nothing beside it. */
public final class FaceTest {
    private static final String INDEX = " throws IndexOutOfBoundsException";
    private static final String STATE = ", IllegalStateException";
    private static final String ARGUMENT = ", IllegalArgumentException";
    private static final String[] METHODS = {
        "public int makeFile(int)" + INDEX,
        "public int makeLink(int,int)" + INDEX,
        "public int remove(int)" + INDEX,
        "public int put(int,int,int)" + INDEX + STATE + ARGUMENT,
        "public int take(int,int)" + INDEX + STATE + ARGUMENT,
        "public int setRights(int,int)" + INDEX + STATE + ARGUMENT,
        "public int run(int) throws IllegalArgumentException" + STATE,
        "public int mend()",
        "public int thin(int) throws IllegalArgumentException" + STATE,
        "public int restore(int)" + INDEX,
        "public int last()",
        "public int oldest()",
        "public boolean isBroken()",
        "public int needs()",
        "public int kindAt(int,int)" + INDEX,
        "public int numberAt(int,int,int)" + INDEX,
        "public int rightsAt(int,int)" + INDEX,
        "public int sizeAt(int,int)" + INDEX,
        "public int size()",
    };
    private static final Checks checks = new Checks();

    public static void main(String[] args) {
        checks.answers("NONE", -1, BackMirror.NONE);
        checks.answers("NOTHING", 0, BackMirror.NOTHING);
        checks.answers("FILE", 1, BackMirror.FILE);
        checks.answers("LINK", 2, BackMirror.LINK);
        checks.answers("the class", "public final", Modifier.toString(BackMirror.class.getModifiers()));
        checks.answers("the methods", lines(new TreeSet<>(Arrays.asList(METHODS))), lines(methods()));
        checks.answers("the constructors", "public BackMirror()", lines(constructors()));
        checks.answers("the fields",
                "public static final int FILE\npublic static final int LINK\n"
                + "public static final int NONE\npublic static final int NOTHING",
                lines(fields()));
        staticFieldsAreFinal();
        noPrivateMethodHasAPublicName();
        checks.end();
    }

    private static String lines(Set<String> texts) {
        return String.join("\n", texts);
    }

    private static String declared(String text) {
        return text.replace("java.lang.", "").replace("BackMirror.", "").replace(",Illegal", ", Illegal");
    }

    private static Set<String> methods() {
        return Arrays.stream(BackMirror.class.getDeclaredMethods())
                .filter(method -> !Modifier.isPrivate(method.getModifiers()))
                .map(Method::toString).map(FaceTest::declared).collect(Collectors.toCollection(TreeSet::new));
    }

    private static Set<String> constructors() {
        return Arrays.stream(BackMirror.class.getDeclaredConstructors())
                .filter(made -> !Modifier.isPrivate(made.getModifiers()))
                .map(Constructor::toString).collect(Collectors.toCollection(TreeSet::new));
    }

    private static Set<String> fields() {
        return Arrays.stream(BackMirror.class.getDeclaredFields())
                .filter(field -> !Modifier.isPrivate(field.getModifiers()))
                .map(Field::toString).map(FaceTest::declared).collect(Collectors.toCollection(TreeSet::new));
    }

    private static void staticFieldsAreFinal() {
        for (Field field : BackMirror.class.getDeclaredFields()) {
            int is = field.getModifiers();
            checks.holds(field + " is final, if static", !Modifier.isStatic(is) || Modifier.isFinal(is));
        }
    }

    private static void noPrivateMethodHasAPublicName() {
        Set<String> names = Arrays.stream(BackMirror.class.getMethods())
                .map(Method::getName).collect(Collectors.toSet());
        for (Method method : BackMirror.class.getDeclaredMethods()) {
            if (!Modifier.isPublic(method.getModifiers())) {
                checks.holds(method + " has a name of its own", !names.contains(method.getName()));
            }
        }
    }
}
