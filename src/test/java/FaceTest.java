import java.lang.reflect.Constructor;
import java.lang.reflect.Field;
import java.lang.reflect.Method;
import java.lang.reflect.Modifier;
import java.util.Arrays;
import java.util.Set;
import java.util.TreeSet;
import java.util.stream.Collectors;

/** The class has the document's face and nothing else that can be seen from outside. */
public final class FaceTest {
    private static final String[] FACE = {
        "int start(int) IllegalArgumentException",
        "int set(int,int) IllegalArgumentException,IllegalStateException",
        "int stock(int,int) IndexOutOfBoundsException,IllegalArgumentException",
        "int erect(int) IndexOutOfBoundsException,UnsupportedOperationException",
        "int lower(int) IndexOutOfBoundsException,UnsupportedOperationException",
        "int deck(int,int,int) IndexOutOfBoundsException,IllegalArgumentException,UnsupportedOperationException",
        "int put(int,int,int) IllegalArgumentException,IndexOutOfBoundsException,UnsupportedOperationException",
        "int take(int,int,int) IllegalArgumentException,IndexOutOfBoundsException,UnsupportedOperationException",
        "int refusal(int,int,int,boolean) IllegalArgumentException,IndexOutOfBoundsException",
        "int report(int,boolean) NoSuchElementException",
        "int bay(int,int) IndexOutOfBoundsException,IllegalArgumentException",
        "int post(int,int) IndexOutOfBoundsException,IllegalArgumentException",
        "int load(int,int) IndexOutOfBoundsException,NoSuchElementException",
        "int steps(int,int) IndexOutOfBoundsException,NoSuchElementException",
        "int fewestTies(int) IllegalArgumentException",
        "int tieLevels(int) IllegalArgumentException",
        "int missing(int,int) IllegalArgumentException",
        "int dismantling() NoSuchElementException",
        "int work(int,int) IllegalArgumentException,IndexOutOfBoundsException",
        "int account(int) IllegalArgumentException",
        "float use(int) IndexOutOfBoundsException",
        "double meanClass() ArithmeticException",
        "int feed(char) IllegalStateException",
        "int perform() UnsupportedOperationException",
        "int undo() IllegalStateException",
        "int save() ",
        "int restore() IllegalStateException"};

    public static void main(String[] args) {
        Class<?> face = ScaffoldPlanner.class;
        Script.due("public", Modifier.isPublic(face.getModifiers()), true);
        Script.due("final", Modifier.isFinal(face.getModifiers()), true);
        Set<String> seen = new TreeSet<>();
        Set<String> names = new TreeSet<>();
        for (Method method : face.getDeclaredMethods()) {
            if (Modifier.isPublic(method.getModifiers())) {
                seen.add(told(method));
                names.add(method.getName());
            }
        }
        Script.due("the face", seen, new TreeSet<>(Arrays.asList(FACE)));
        for (Method method : face.getDeclaredMethods()) {
            if (Modifier.isPublic(method.getModifiers())) continue;
            Script.due(method + " is private", Modifier.isPrivate(method.getModifiers()), true);
            Script.due(method + " has a name of its own", names.contains(method.getName()), false);
        }
        for (Field field : face.getDeclaredFields()) {
            Script.due(field + " is private", Modifier.isPrivate(field.getModifiers()), true);
            if (Modifier.isStatic(field.getModifiers())) {
                Script.due(field + " is final", Modifier.isFinal(field.getModifiers()), true);
            }
        }
        Constructor<?>[] constructors = face.getDeclaredConstructors();
        Script.due("constructors", constructors.length, 1);
        Script.due("the constructor", constructors[0].toString(), "public ScaffoldPlanner()");
        Script.finish();
    }

    private static String told(Method method) {
        String types = Arrays.stream(method.getParameterTypes()).map(Class::getSimpleName)
            .collect(Collectors.joining(","));
        String thrown = Arrays.stream(method.getExceptionTypes()).map(Class::getSimpleName)
            .collect(Collectors.joining(","));
        return method.getReturnType().getSimpleName() + " " + method.getName() + "(" + types + ") " + thrown;
    }
}
