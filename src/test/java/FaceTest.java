import java.lang.reflect.Constructor;
import java.lang.reflect.Field;
import java.lang.reflect.Method;
import java.lang.reflect.Modifier;
import java.util.Arrays;
import java.util.Set;
import java.util.TreeSet;
import java.util.stream.Collectors;

/** The public face is the document's, no more and no less, and the constants are what they are. */
public final class FaceTest {
    private static final Due due = new Due("FaceTest");

    private static final String[] FACE = {
        "int feed(int,int,int,int,int)", "boolean end(int)",
        "int sheet() IllegalArgumentException,UnsupportedOperationException",
        "int view(int) IndexOutOfBoundsException,IllegalArgumentException", "int fault()",
        "int kind(int) IndexOutOfBoundsException", "int cell(int,int) IndexOutOfBoundsException", "int order(int)",
        "int row(int,int) IndexOutOfBoundsException", "int place(int,int) IndexOutOfBoundsException",
        "int about(int,int) IndexOutOfBoundsException,NoSuchElementException",
        "int sorts(int,int) IndexOutOfBoundsException",
        "int set(int,int,int,int) IndexOutOfBoundsException,IllegalStateException,IllegalArgumentException",
        "int clear(int,int,int) IndexOutOfBoundsException,IllegalStateException",
        "int fill(int,int,int,int) IndexOutOfBoundsException,IllegalArgumentException,IllegalStateException",
        "int replace(int,int,int,int) IndexOutOfBoundsException,IllegalStateException,IllegalArgumentException",
        "int swap(int,int,int,int) IndexOutOfBoundsException,IllegalArgumentException,IllegalStateException",
        "int paste(int,int,int) IndexOutOfBoundsException,IllegalStateException,IllegalArgumentException,"
            + "UnsupportedOperationException",
        "int add(int,int) IndexOutOfBoundsException,UnsupportedOperationException",
        "int drop(int,int) IndexOutOfBoundsException",
        "int drag(int,int,int) IndexOutOfBoundsException,IllegalArgumentException",
        "int refresh(int) IndexOutOfBoundsException", "int undo(int) IndexOutOfBoundsException,IllegalStateException",
        "boolean fits(int,int) IndexOutOfBoundsException", "int why(int,int) IndexOutOfBoundsException",
        "int stale(int) IndexOutOfBoundsException", "int pending(int) IndexOutOfBoundsException",
        "int rank(int,int) IndexOutOfBoundsException", "int moves(int) IndexOutOfBoundsException",
        "int unlike(int,int) IndexOutOfBoundsException,IllegalArgumentException",
        "int told(int,int) IndexOutOfBoundsException",
        "int between(int,int,int) IndexOutOfBoundsException,IllegalArgumentException",
        "int sum(int,int) IndexOutOfBoundsException,IllegalStateException",
        "int kinds(int,int) IndexOutOfBoundsException", "int by(int,int) IndexOutOfBoundsException",
        "int group(int,int,int,int) IndexOutOfBoundsException,NoSuchElementException,IllegalArgumentException",
        "int total(int,int,int,int) IndexOutOfBoundsException,IllegalStateException,IllegalArgumentException",
        "int middle(int,int) IndexOutOfBoundsException", "int twice(int) IndexOutOfBoundsException",
        "int barred(int) IndexOutOfBoundsException",
        "int find(int,int,int,int) IndexOutOfBoundsException,IllegalArgumentException",
        "int log(int,int) NoSuchElementException", "void image()", "boolean back()", "int count(int)"};

    public static void main(String[] args) throws Exception {
        Set<String> names = new TreeSet<>();
        Set<String> methods = new TreeSet<>();
        for (Method m : PrivateViews.class.getDeclaredMethods()) {
            if (!Modifier.isPrivate(m.getModifiers())) {
                methods.add(written(m));
                names.add(m.getName());
            }
        }
        due.is("the methods", new TreeSet<>(Arrays.asList(FACE)), () -> methods);
        due.is("the fields", "[NONE, NOTHING]", () -> Arrays.stream(PrivateViews.class.getDeclaredFields())
                .filter(f -> !Modifier.isPrivate(f.getModifiers())).map(Field::getName).sorted().toList());
        due.is("NONE", -1, () -> PrivateViews.NONE);
        due.is("NOTHING", -1000000, () -> PrivateViews.NOTHING);
        due.is("public and final", Modifier.PUBLIC | Modifier.FINAL, () -> PrivateViews.class.getModifiers());
        Constructor<?>[] made = PrivateViews.class.getDeclaredConstructors();
        due.is("one constructor", 1, () -> made.length);
        due.is("public, without parameters", "public 0",
                () -> Modifier.toString(made[0].getModifiers()) + " " + made[0].getParameterCount());
        for (Class<?> inside : PrivateViews.class.getDeclaredClasses()) {
            due.is(inside + " is static", true, () -> Modifier.isStatic(inside.getModifiers()));
            noNameTwice(inside, names);
        }
        noNameTwice(PrivateViews.class, names);
        due.end();
    }

    private static void noNameTwice(Class<?> of, Set<String> names) {
        for (Method m : of.getDeclaredMethods()) {
            boolean own = of != PrivateViews.class || Modifier.isPrivate(m.getModifiers());
            due.is(m + " bears a name of the face", false, () -> own && names.contains(m.getName()));
            due.is(m + " has at most seven parameters", true, () -> m.getParameterCount() <= 7);
        }
    }

    private static String written(Method m) {
        String parameters = Arrays.stream(m.getParameterTypes()).map(Class::getSimpleName)
                .collect(Collectors.joining(","));
        String thrown = Arrays.stream(m.getExceptionTypes()).map(Class::getSimpleName)
                .collect(Collectors.joining(","));
        String head = m.getReturnType().getSimpleName() + " " + m.getName() + "(" + parameters + ")";
        return thrown.isEmpty() ? head : head + " " + thrown;
    }
}
