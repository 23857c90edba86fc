import java.lang.reflect.Constructor;
import java.lang.reflect.Field;
import java.lang.reflect.Method;
import java.lang.reflect.Modifier;
import java.util.Arrays;
import java.util.Set;
import java.util.TreeSet;

/** The public face of the document, and the rule of the language that there is no other member to be seen. */
final class FaceTest {
    private static final String[] METHODS = {
        "int setDice(int, int, int) IllegalArgumentException IllegalStateException",
        "int dice()",
        "int outcomes()",
        "int sumOf(int) IndexOutOfBoundsException",
        "int ways(int, int) IllegalArgumentException",
        "double chance(int, int) IllegalArgumentException",
        "int lay(int, int, int, int, int, int) "
            + "IndexOutOfBoundsException IllegalArgumentException IllegalStateException",
        "int takeBack(int) IndexOutOfBoundsException",
        "int settle(int) IndexOutOfBoundsException",
        "int open()",
        "int bank()",
        "int rounds()",
        "int purseOf(int) IndexOutOfBoundsException",
        "int patronOf(int) IndexOutOfBoundsException",
        "int stakeOf(int) IndexOutOfBoundsException",
        "int bringsOf(int) IndexOutOfBoundsException",
        "int staked()",
        "int edgeTop(int) IndexOutOfBoundsException",
        "int edgeBottom(int) IndexOutOfBoundsException",
        "int allEdgesTop()",
        "int allEdgesBottom()",
        "int dearestWager()",
        "int gainAt(int) IndexOutOfBoundsException",
        "int worstGain()",
        "int worstOutcome()",
        "int purseAt(int, int) IndexOutOfBoundsException",
        "int leastPurse(int) IndexOutOfBoundsException",
        "boolean isHedged(int) IndexOutOfBoundsException",
        "int hedgeFor(int, int, int) IndexOutOfBoundsException IllegalArgumentException",
        "int fairWin(int, int, int) IllegalArgumentException",
        "long digest()",
    };

    private final Check check = new Check();

    public static void main(String[] args) {
        FaceTest test = new FaceTest();
        test.theClass();
        test.theMethods();
        test.theFields();
        test.check.end();
    }

    private void theClass() {
        int modifiers = TavernDice.class.getModifiers();
        check.same("public and final", Modifier.isPublic(modifiers) && Modifier.isFinal(modifiers), true);
        check.same("interfaces", TavernDice.class.getInterfaces().length, 0);
        check.same("extends nothing", TavernDice.class.getSuperclass() == Object.class, true);
        Constructor<?>[] constructors = TavernDice.class.getDeclaredConstructors();
        check.same("constructors", constructors.length, 1);
        check.same("public constructor", Modifier.isPublic(constructors[0].getModifiers()), true);
        check.same("parameters of the constructor", constructors[0].getParameterCount(), 0);
    }

    private void theMethods() {
        Set<String> due = new TreeSet<>(Arrays.asList(METHODS));
        Set<String> publicNames = new TreeSet<>();
        for (Method method : TavernDice.class.getDeclaredMethods()) {
            if (!Modifier.isPrivate(method.getModifiers())) {
                publicNames.add(method.getName());
                String told = told(method);
                if (!due.remove(told) || method.getModifiers() != Modifier.PUBLIC) {
                    check.tell("the document has no " + told);
                }
            }
        }
        for (String missing : due) {
            check.tell("the class has no " + missing);
        }
        for (Method method : TavernDice.class.getDeclaredMethods()) {
            if (Modifier.isPrivate(method.getModifiers()) && publicNames.contains(method.getName())) {
                check.tell("a private method bears the name of a public one: " + method.getName());
            }
        }
    }

    private void theFields() {
        for (Field field : TavernDice.class.getDeclaredFields()) {
            int modifiers = field.getModifiers();
            check.same("private field " + field.getName(), Modifier.isPrivate(modifiers), true);
            check.same("no static state in " + field.getName(),
                Modifier.isStatic(modifiers) && !Modifier.isFinal(modifiers), false);
        }
    }

    private static String told(Method method) {
        StringBuilder text = new StringBuilder();
        text.append(method.getReturnType().getSimpleName()).append(' ').append(method.getName());
        text.append(names(method.getParameterTypes(), "(", ", ", ")"));
        for (Class<?> thrown : method.getExceptionTypes()) {
            text.append(' ').append(thrown.getSimpleName());
        }
        return text.toString();
    }

    private static String names(Class<?>[] types, String start, String between, String end) {
        StringBuilder text = new StringBuilder(start);
        for (int i = 0; i < types.length; i++) {
            text.append(i == 0 ? "" : between).append(types[i].getSimpleName());
        }
        return text.append(end).toString();
    }
}
