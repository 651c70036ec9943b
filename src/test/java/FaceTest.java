import java.lang.reflect.Constructor;
import java.lang.reflect.Field;
import java.lang.reflect.Method;
import java.lang.reflect.Modifier;
import java.util.Arrays;
import java.util.Set;
import java.util.TreeSet;

/** The face of the class is that of the document, and nothing else is to be seen of it. */
public final class FaceTest {
    private static final String[] FACE = {
        "int universe(int)", "int variable(int)", "int functions(int, int)", "int lambda(int, int)",
        "int apply(int, int)", "int dataNode(int)", "int constructorNode(int)", "int functionNode(int)",
        "int addData()", "int addConstructor(int, int, int, int, int)", "int size(int)", "int number(int)",
        "int normal(int)", "int typeOf(int)", "int level(int)", "boolean isOf(int, int)", "int declare(int)",
        "int split(int, int)", "int fill(int, int)", "int auto(int)", "int reopen(int)", "char goalState(int)",
        "int contextSize(int)", "int contextType(int, int)", "int goalType(int)", "int openGoals(int)",
        "int accept(int)", "boolean isAccepted(int)", "int run(int)", "int runByClauses(int)", "int steps(int)",
        "int valueSize(int)", "long allSteps()", "float filledShare()", "double meanSize()", "boolean isSound()",
    };

    private static String textOf(Method method) {
        String parameters = Arrays.toString(method.getParameterTypes());
        return method.getReturnType() + " " + method.getName() + "("
                + parameters.substring(1, parameters.length() - 1) + ")";
    }

    public static void main(String[] args) {
        Class<?> type = TelescopeCourt.class;
        Due.is("public and final", type.getModifiers(), Modifier.PUBLIC | Modifier.FINAL);
        Set<String> seen = new TreeSet<>();
        Set<String> names = new TreeSet<>();
        for (Method method : type.getDeclaredMethods()) {
            if (!Modifier.isPrivate(method.getModifiers())) {
                seen.add(textOf(method));
                names.add(method.getName());
                Due.is(method.getName() + " is public alone", method.getModifiers(), Modifier.PUBLIC);
            }
        }
        Due.is("the face", seen, new TreeSet<>(Arrays.asList(FACE)));
        Constructor<?>[] constructors = type.getDeclaredConstructors();
        Due.is("constructors", constructors.length, 1);
        Due.is("its arguments", constructors[0].getParameterCount(), 0);
        Due.is("it is public", constructors[0].getModifiers(), Modifier.PUBLIC);
        for (Field field : type.getDeclaredFields()) {
            Due.is(field.getName() + " is private", Modifier.isPrivate(field.getModifiers()), true);
        }
        for (Class<?> inside : type.getDeclaredClasses()) {
            Due.is(inside.getName() + " is static", Modifier.isStatic(inside.getModifiers()), true);
            for (Method method : inside.getDeclaredMethods()) {
                Due.is(method.getName() + " has a name of the face", names.contains(method.getName()), false);
            }
        }
        Due.end();
    }
}
