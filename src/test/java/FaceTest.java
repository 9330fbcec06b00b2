import java.lang.reflect.Constructor;
import java.lang.reflect.Field;
import java.lang.reflect.Method;
import java.lang.reflect.Modifier;
import java.util.Set;
import java.util.TreeSet;

/** The public face of the document, no more and no less, and the rules of LANGUAGE.md that a compiled class shows. */
final class FaceTest {
    private static final Set<String> FACE = Set.of(
        "boolean set 3", "int capacity 2", "int cost 1", "int least 0", "int leastSide 0", "int between 2",
        "int core 2", "int reach 2", "int forced 2", "int pairsAtLeast 1", "int group 2", "int loss 2",
        "boolean tight 4");
    private static final int MOST_PARAMETERS = 7;

    private FaceTest() {
    }

    public static void main(String[] args) {
        Class<?> type = CutFinder.class;
        Checks.due("public final class", type.getModifiers(), Modifier.PUBLIC | Modifier.FINAL);
        Checks.due("nested classes", type.getDeclaredClasses().length, 0);
        Checks.due("no other super class", type.getSuperclass() == Object.class, true);
        Checks.due("interfaces", type.getInterfaces().length, 0);
        constructors(type);
        methods(type);
        fields(type);
        Checks.end();
    }

    private static void constructors(Class<?> type) {
        Constructor<?>[] all = type.getDeclaredConstructors();
        Checks.due("constructors", all.length, 1);
        Checks.due("parameters of the constructor", all[0].getParameterCount(), 0);
        Checks.due("the constructor is public", all[0].getModifiers(), Modifier.PUBLIC);
    }

    private static void methods(Class<?> type) {
        Set<String> found = new TreeSet<>();
        Set<String> publicNames = new TreeSet<>();
        for (Method method : type.getDeclaredMethods()) {
            if (!Modifier.isPrivate(method.getModifiers())) {
                Checks.due(method + " is public alone", method.getModifiers(), Modifier.PUBLIC);
                found.add(method.getReturnType() + " " + method.getName() + " " + method.getParameterCount());
                publicNames.add(method.getName());
            }
            onlyInts(method);
        }
        Checks.due("the methods " + found, found.equals(FACE), true);
        for (Method method : type.getDeclaredMethods()) {
            if (Modifier.isPrivate(method.getModifiers())) {
                Checks.due(method + " has its own name", publicNames.contains(method.getName()), false);
            }
        }
    }

    private static void onlyInts(Method method) {
        Checks.due(method + " has few parameters", method.getParameterCount() <= MOST_PARAMETERS, true);
        if (!Modifier.isPrivate(method.getModifiers())) {
            for (Class<?> parameter : method.getParameterTypes()) {
                Checks.due(method + " takes ints", parameter == int.class, true);
            }
        }
    }

    private static void fields(Class<?> type) {
        for (Field field : type.getDeclaredFields()) {
            int modifiers = field.getModifiers();
            boolean isBad = field.getName().equals("BAD");
            Checks.due(field + " is private, or BAD", Modifier.isPrivate(modifiers), !isBad);
            if (isBad) {
                int wanted = Modifier.PUBLIC | Modifier.STATIC | Modifier.FINAL;
                Checks.due(field + " is a public constant", modifiers, wanted);
                Checks.due(field + " is an int", field.getType() == int.class, true);
            }
            if (Modifier.isStatic(modifiers)) {
                boolean number = field.getType() == int.class || field.getType() == long.class;
                Checks.due(field + " is a constant number", number && Modifier.isFinal(modifiers), true);
            }
        }
    }
}
