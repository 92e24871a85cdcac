import java.lang.reflect.Constructor;
import java.lang.reflect.Field;
import java.lang.reflect.Method;
import java.lang.reflect.Modifier;
import java.util.Set;
import java.util.TreeSet;

/** The class shows the document's face and nothing else. */
public final class FaceTest {
    private static final Check CHECK = new Check("FaceTest");

    private static final String[] FACE = {
        "int addArc(int, int, int) IndexOutOfBoundsException IllegalArgumentException IllegalStateException",
        "int addNode() IllegalStateException",
        "int arcCount()",
        "int capacity(int) IndexOutOfBoundsException",
        "int cut(int) IndexOutOfBoundsException",
        "int cutCapacity(int) IllegalStateException IllegalArgumentException",
        "long digest()",
        "int findCuts() IllegalStateException",
        "int greatestCut() IllegalStateException",
        "int greatestFlow(int) IllegalStateException IndexOutOfBoundsException",
        "int headroom(int) IllegalStateException IndexOutOfBoundsException",
        "boolean isBottleneck(int) IllegalStateException IndexOutOfBoundsException",
        "boolean isLimiting(int) IllegalStateException IndexOutOfBoundsException",
        "int leastFlow(int) IllegalStateException IndexOutOfBoundsException",
        "int maximum() IllegalStateException",
        "int maximumBetween(int, int) IndexOutOfBoundsException IllegalArgumentException",
        "int maximumWith(int, int) IllegalStateException IndexOutOfBoundsException IllegalArgumentException",
        "int maximumWithout(int) IllegalStateException IndexOutOfBoundsException",
        "int nodeCount()",
        "int pop() IllegalStateException",
        "int push() IllegalStateException",
        "int scale(int, double) IndexOutOfBoundsException IllegalArgumentException",
        "int setCapacity(int, int) IndexOutOfBoundsException IllegalArgumentException",
        "boolean setEnds(int, int) IndexOutOfBoundsException IllegalArgumentException",
        "int smallestCut() IllegalStateException",
        "double utilization() IllegalStateException"
    };

    public static void main(String[] args) {
        CHECK.due("public and final", true, FaceTest::isPublicAndFinal);
        CHECK.due("constructors", 1, () -> FlowNetwork.class.getDeclaredConstructors().length);
        for (Constructor<?> constructor : FlowNetwork.class.getDeclaredConstructors()) {
            CHECK.due("public constructor", true, () -> Modifier.isPublic(constructor.getModifiers()));
            CHECK.due("without parameters", 0, constructor::getParameterCount);
        }
        methods();
        fields();
        noNameTwice();
        CHECK.end();
    }

    private static boolean isPublicAndFinal() {
        int modifiers = FlowNetwork.class.getModifiers();
        return Modifier.isPublic(modifiers) && Modifier.isFinal(modifiers);
    }

    private static String signature(Method method) {
        StringBuilder text = new StringBuilder();
        text.append(method.getReturnType().getSimpleName()).append(' ').append(method.getName());
        String between = "(";
        for (Class<?> type : method.getParameterTypes()) {
            text.append(between).append(type.getSimpleName());
            between = ", ";
        }
        text.append(method.getParameterCount() == 0 ? "()" : ")");
        for (Class<?> type : method.getExceptionTypes()) {
            text.append(' ').append(type.getSimpleName());
        }
        return text.toString();
    }

    private static void methods() {
        Set<String> want = new TreeSet<>(Set.of(FACE));
        Set<String> got = new TreeSet<>();
        for (Method method : FlowNetwork.class.getDeclaredMethods()) {
            if (!Modifier.isPrivate(method.getModifiers()) && !method.isSynthetic()) {
                got.add(signature(method));
            }
        }
        CHECK.due("methods", want, () -> got);
    }

    private static void fields() {
        for (Field field : FlowNetwork.class.getDeclaredFields()) {
            CHECK.due(field.getName(), true, () -> Modifier.isPrivate(field.getModifiers()));
        }
    }

    /** No private method, of the class or of one inside it, bears the name of a public one. */
    private static void noNameTwice() {
        Set<String> names = new TreeSet<>();
        for (Method method : FlowNetwork.class.getMethods()) {
            names.add(method.getName());
        }
        for (Class<?> inside : FlowNetwork.class.getDeclaredClasses()) {
            CHECK.due("static class", true, () -> Modifier.isStatic(inside.getModifiers()));
            for (Method method : inside.getDeclaredMethods()) {
                CHECK.due(method.getName(), false, () -> names.contains(method.getName()));
            }
        }
        for (Method method : FlowNetwork.class.getDeclaredMethods()) {
            boolean hidden = Modifier.isPrivate(method.getModifiers());
            CHECK.due(method.getName(), !hidden, () -> names.contains(method.getName()));
        }
    }
}
